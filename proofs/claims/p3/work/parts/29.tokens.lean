set_option maxRecDepth 20000 in
set_option maxHeartbeats 4000000 in
theorem c_digit {X : jX} {dd : Nat} {V : jH} {c : Int} (hd : 2 ≤ dd) (h_c : (-2147483648 : Int) ≤ c ∧ c ≤ 2147483647) : wk X dd 257 [.int (i32 c)] V (fun o V_q => ∃ (r : Int64), V_q = V ∧ o = .inl (some (.long r)) ∧ True) := by
  obtain ⟨d, rfl⟩ : ∃ d, dd = d + 1 := ⟨dd - 1, by omega⟩
  refine wk_of (e := jm257) rfl (Nat.le_of_ble_eq_true rfl) ?_
  show wj X d jm257 (0, [(0, .int (i32 (c)))], [], V) _
  refine jx_ld (pc_q := 1) (l_q := [(0, .int (i32 (c)))]) (st_q := [.int (i32 (c))]) rfl (jl_iloadn rfl) ?_
  refine jx_st (pc_q := 4) (as := [.int (i32 (c))]) (st := []) rfl rfl ⟨rfl, Nat.le_of_ble_eq_true rfl⟩ rfl rfl rfl (c_isSmall (dd := d) (hd := by omega) (v := c)   (h_v := ⟨(Int.le_trans (by decide : (-2147483648 : Int) ≤ -2147483648) h_c.1), (Int.le_trans h_c.2 (by decide : (2147483647 : Int) ≤ 2147483647))⟩)  ) (fun o V_q hq => ?_)
  obtain ⟨r1, rfl, rfl, b2, q3⟩ := hq
  refine .inr ⟨_, rfl, ?_⟩
  rcases q3 with ⟨rfl, a4, a5⟩ | ⟨rfl, a6⟩
  · have _q : True := trivial
    refine jx_if_eq (pc_q := 7) (tg := 17) rfl rfl rfl (by decide) (by decide) (fun h7 => ?_) (fun h7 => ?_)
    · have _q := h7
      exact absurd h7 (by omega)
    · have _q := h7
      refine jx_ld (pc_q := 8) (l_q := [(0, .int (i32 (c)))]) (st_q := [.int (i32 (c))]) rfl (jl_iloadn rfl) ?_
      refine jx_ar (pc_q := 10) (st_q := [.int (i32 (97)), .int (i32 (c))]) rfl rfl rfl rfl ?_
      refine jx_sub (pc_q := 11) rfl rfl ?_
      refine jx_ar (pc_q := 12) (st_q := .long ((i32 ((c - 97))).toInt64) :: []) rfl rfl rfl rfl ?_
      obtain ⟨y8, ey8⟩ : ∃ q : Int64, q = (i32 ((c - 97))).toInt64 := ⟨_, rfl⟩
      rw [← ey8]
      refine jx_ar (pc_q := 13) (st_q := [.long (Int64.ofNat 1), .long (y8)]) rfl rfl rfl rfl ?_
      refine jx_ar (pc_q := 14) (st_q := .long ((y8 : Int64) + (Int64.ofNat 1)) :: []) rfl rfl rfl rfl ?_
      obtain ⟨y9, ey9⟩ : ∃ q : Int64, q = (y8 : Int64) + (Int64.ofNat 1) := ⟨_, rfl⟩
      rw [← ey9]
      refine jx_go (tg := 39) rfl rfl ?_
      refine jx_rt (v := some (.long (y9))) rfl rfl rfl rfl rfl rfl ?_
      exact ⟨_, rfl, rfl, trivial⟩
  · have _q : True := trivial
    refine jx_if_eq (pc_q := 7) (tg := 17) rfl rfl rfl (by decide) (by decide) (fun h10 => ?_) (fun h10 => ?_)
    · have _q := h10
      refine jx_ld (pc_q := 18) (l_q := [(0, .int (i32 (c)))]) (st_q := [.int (i32 (c))]) rfl (jl_iloadn rfl) ?_
      refine jx_st (pc_q := 21) (as := [.int (i32 (c))]) (st := []) rfl rfl ⟨rfl, Nat.le_of_ble_eq_true rfl⟩ rfl rfl rfl (c_isDigit (dd := d) (hd := by omega) (v := c)   (h_v := ⟨(Int.le_trans (by decide : (-2147483648 : Int) ≤ -2147483648) h_c.1), (Int.le_trans h_c.2 (by decide : (2147483647 : Int) ≤ 2147483647))⟩)  ) (fun o V_q hq => ?_)
      obtain ⟨r11, rfl, rfl, b12, q13⟩ := hq
      refine .inr ⟨_, rfl, ?_⟩
      rcases q13 with ⟨rfl, a14, a15⟩ | ⟨rfl, a16⟩
      · have _q : True := trivial
        refine jx_if_eq (pc_q := 24) (tg := 36) rfl rfl rfl (by decide) (by decide) (fun h17 => ?_) (fun h17 => ?_)
        · have _q := h17
          exact absurd h17 (by omega)
        · have _q := h17
          refine jx_ld (pc_q := 25) (l_q := [(0, .int (i32 (c)))]) (st_q := [.int (i32 (c))]) rfl (jl_iloadn rfl) ?_
          refine jx_ar (pc_q := 27) (st_q := [.int (i32 (48)), .int (i32 (c))]) rfl rfl rfl rfl ?_
          refine jx_sub (pc_q := 28) rfl rfl ?_
          refine jx_ar (pc_q := 29) (st_q := .long ((i32 ((c - 48))).toInt64) :: []) rfl rfl rfl rfl ?_
          obtain ⟨y18, ey18⟩ : ∃ q : Int64, q = (i32 ((c - 48))).toInt64 := ⟨_, rfl⟩
          rw [← ey18]
          refine jx_hp (pc_q := 32) (st_q := [.long (27), .long (y18)]) rfl rfl rfl rfl rfl rfl ?_
          refine jx_ar (pc_q := 33) (st_q := .long ((y18 : Int64) + (27)) :: []) rfl rfl rfl rfl ?_
          obtain ⟨y19, ey19⟩ : ∃ q : Int64, q = (y18 : Int64) + (27) := ⟨_, rfl⟩
          rw [← ey19]
          refine jx_go (tg := 39) rfl rfl ?_
          refine jx_rt (v := some (.long (y19))) rfl rfl rfl rfl rfl rfl ?_
          exact ⟨_, rfl, rfl, trivial⟩
      · have _q : True := trivial
        refine jx_if_eq (pc_q := 24) (tg := 36) rfl rfl rfl (by decide) (by decide) (fun h20 => ?_) (fun h20 => ?_)
        · have _q := h20
          refine jx_hp (pc_q := 39) (st_q := [.long (37)]) rfl rfl rfl rfl rfl rfl ?_
          refine jx_rt (v := some (.long (37))) rfl rfl rfl rfl rfl rfl ?_
          exact ⟨_, rfl, rfl, trivial⟩
        · have _q := h20
          exact absurd h20 (by omega)
    · have _q := h10
      exact absurd h10 (by omega)
set_option maxRecDepth 20000 in
set_option maxHeartbeats 4000000 in
theorem c_nameOf {X : jX} {dd : Nat} {V : jH} {s : Nat} {s_s : List Char} (q_s : jTx s = some s_s) (l_s : s < 31) (n_s : s_s.length ≤ 1000) (hd : 3 ≤ dd) : wk X dd 261 [.ref s] V (fun o V_q => ∃ (r : Int64), V_q = V ∧ o = .inl (some (.long r)) ∧ True) := by
  obtain ⟨d, rfl⟩ : ∃ d, dd = d + 1 := ⟨dd - 1, by omega⟩
  refine wk_of (e := jm261) rfl (Nat.le_of_ble_eq_true rfl) ?_
  show wj X d jm261 (0, [(0, .ref s)], [], V) _
  have at_4 : ∀ (m : Nat) (L : jL) (k : Int) (v : Int64), ((s_s.length : Int) - k).toNat = m → jGet L 0 = some (.ref s) → jGet L 3 = some (.int (i32 k)) → jGet L 1 = some (.long v) → ((-2147483648 : Int) ≤ k ∧ k ≤ 2147483647) → (0 ≤ k ∧ k ≤ (s_s.length : Int)) → wj X d jm261 (4, L, [], V) (fun o V_q => ∃ (r : Int64), V_q = V ∧ o = .inl (some (.long r)) ∧ True) := by
    intro m
    induction m using Nat.strongRecOn with
    | ind m ih4 =>
      intro L k v hm gL_0 gL_3 gL_1 rx_k iv_0
      refine jx_ld (pc_q := 5) (l_q := L) (st_q := [.int (i32 (k))]) rfl (jl_iloadn gL_3) ?_
      refine jx_ld (pc_q := 6) (l_q := L) (st_q := [.ref s, .int (i32 (k))]) rfl (jl_aloadn gL_0) ?_
      refine jx_sl (pc_q := 9) (n := (s_s.length : Int)) rfl rfl q_s ⟨Nat.le_of_ble_eq_true rfl, l_s⟩ rfl rfl ?_
      refine jx_icmp_ge (pc_q := 12) (tg := 33) rfl rfl rfl (Int.le_trans (by decide : (-2147483648 : Int) ≤ -2147483648) rx_k.1) (Int.le_trans rx_k.2 (by decide : (2147483647 : Int) ≤ 2147483647)) (by omega) (by omega) (fun h1 => ?_) (fun h1 => ?_)
      · have _q := h1
        refine jx_ld (pc_q := 34) (l_q := L) (st_q := [.long (v)]) rfl (jl_lloadn gL_1) ?_
        refine jx_rt (v := some (.long (v))) rfl rfl rfl rfl rfl rfl ?_
        exact ⟨_, rfl, rfl, trivial⟩
      · have _q := h1
        refine jx_hp (pc_q := 15) (st_q := [.long (38)]) rfl rfl rfl rfl rfl rfl ?_
        refine jx_ld (pc_q := 16) (l_q := L) (st_q := [.long (v), .long (38)]) rfl (jl_lloadn gL_1) ?_
        refine jx_ar (pc_q := 17) (st_q := .long ((38 : Int64) * (v)) :: []) rfl rfl rfl rfl ?_
        obtain ⟨y2, ey2⟩ : ∃ q : Int64, q = (38 : Int64) * (v) := ⟨_, rfl⟩
        rw [← ey2]
        refine jx_ld (pc_q := 18) (l_q := L) (st_q := [.ref s, .long (y2)]) rfl (jl_aloadn gL_0) ?_
        refine jx_ld (pc_q := 19) (l_q := L) (st_q := [.int (i32 (k)), .ref s, .long (y2)]) rfl (jl_iloadn gL_3) ?_
        refine jx_sc (pc_q := 22) (n := (s_s.length : Int)) rfl rfl q_s ⟨Nat.le_of_ble_eq_true rfl, l_s⟩ rfl (by omega) (by omega) (by omega) rfl (fun r3 hr3 => ?_)
        refine jx_st (pc_q := 25) (as := [.int (i32 (r3))]) (st := [.long (y2)]) rfl rfl ⟨rfl, Nat.le_of_ble_eq_true rfl⟩ rfl rfl rfl (c_digit (dd := d) (hd := by omega) (c := r3)   (h_c := ⟨(by omega), (by omega)⟩)  ) (fun o V_q hq => ?_)
        obtain ⟨r4, rfl, rfl, -⟩ := hq
        refine .inr ⟨_, rfl, ?_⟩
        refine jx_ar (pc_q := 26) (st_q := .long ((y2 : Int64) + (r4)) :: []) rfl rfl rfl rfl ?_
        obtain ⟨y6, ey6⟩ : ∃ q : Int64, q = (y2 : Int64) + (r4) := ⟨_, rfl⟩
        rw [← ey6]
        refine jx_ld (pc_q := 27) (l_q := jSto2 L 1 (.long (y6))) (st_q := []) rfl rfl ?_
        obtain ⟨L7, eL7⟩ : ∃ q, q = jSto2 L 1 (.long (y6)) := ⟨_, rfl⟩
        rw [← eL7]
        have gL7_0 : jGet L7 0 = some (.ref s) := eL7 ▸ jg_ne2 (by decide) (by decide) gL_0 (.inl rfl)
        have gL7_3 : jGet L7 3 = some (.int (i32 (k))) := eL7 ▸ jg_ne2 (by decide) (by decide) gL_3 (.inl rfl)
        have gL7_1 : jGet L7 1 = some (.long (y6)) := eL7 ▸ jg_eq2
        refine jx_inc (pc_q := 30) (l_q := jSto1 L7 3 (.int (i32 ((k + (1)))))) (x := k) rfl gL7_3 (by decide) rfl rfl ?_
        obtain ⟨L8, eL8⟩ : ∃ q, q = jSto1 L7 3 (.int (i32 ((k + (1))))) := ⟨_, rfl⟩
        rw [← eL8]
        have gL8_0 : jGet L8 0 = some (.ref s) := eL8 ▸ jg_ne (by decide) gL7_0 rfl
        have gL8_1 : jGet L8 1 = some (.long (y6)) := eL8 ▸ jg_nel (by decide) gL7_1 (by decide)
        have gL8_3 : jGet L8 3 = some (.int (i32 ((k + (1))))) := eL8 ▸ jg_eq
        refine jx_go (tg := 4) rfl rfl ?_
        exact ih4 _ (by omega) L8 ((k + (1))) (y6) rfl gL8_0 gL8_3 gL8_1 (by omega) (by omega)
  refine jx_ar (pc_q := 1) (st_q := [.long (Int64.ofNat 0)]) rfl rfl rfl rfl ?_
  refine jx_ld (pc_q := 2) (l_q := jSto2 [(0, .ref s)] 1 (.long (Int64.ofNat 0))) (st_q := []) rfl rfl ?_
  obtain ⟨L9, eL9⟩ : ∃ q, q = jSto2 [(0, .ref s)] 1 (.long (Int64.ofNat 0)) := ⟨_, rfl⟩
  rw [← eL9]
  have gL9_0 : jGet L9 0 = some (.ref s) := eL9 ▸ jg_ne2 (by decide) (by decide) (rfl : jGet [(0, .ref s)] 0 = some (.ref s)) (.inl rfl)
  have gL9_1 : jGet L9 1 = some (.long (Int64.ofNat 0)) := eL9 ▸ jg_eq2
  refine jx_ar (pc_q := 3) (st_q := [.int (i32 (0))]) rfl rfl rfl rfl ?_
  refine jx_ld (pc_q := 4) (l_q := jSto1 L9 3 (.int (i32 (0)))) (st_q := []) rfl rfl ?_
  obtain ⟨L10, eL10⟩ : ∃ q, q = jSto1 L9 3 (.int (i32 (0))) := ⟨_, rfl⟩
  rw [← eL10]
  have gL10_0 : jGet L10 0 = some (.ref s) := eL10 ▸ jg_ne (by decide) gL9_0 rfl
  have gL10_1 : jGet L10 1 = some (.long (Int64.ofNat 0)) := eL10 ▸ jg_nel (by decide) gL9_1 (by decide)
  have gL10_3 : jGet L10 3 = some (.int (i32 (0))) := eL10 ▸ jg_eq
  exact at_4 _ L10 (0) (Int64.ofNat 0) rfl gL10_0 gL10_3 gL10_1 (by omega) (by omega)
set_option maxRecDepth 20000 in
set_option maxHeartbeats 4000000 in
theorem c_keyOf {X : jX} {dd : Nat} {c0 c1 : jC} {G : Nat → Int} {A : Nat → Nat → Int} {T : jH} {v : Int64} (hd : 1 ≤ dd) (hW : Wk G A) : wk X dd 263 [.ref 66, .long v] (rV c0 c1 G A T) (fun o V_q => ∃ (r : Int), V_q = rV c0 c1 G A T ∧ o = .inl (some (.int (i32 r))) ∧ ((-2147483648 : Int) ≤ r ∧ r ≤ 2147483647) ∧ True) := by
  obtain ⟨d, rfl⟩ : ∃ d, dd = d + 1 := ⟨dd - 1, by omega⟩
  refine wk_of (e := jm263) rfl (Nat.le_of_ble_eq_true rfl) ?_
  show wj X d jm263 (0, [(0, .ref 66), (1, .long (v))], [], rV c0 c1 G A T) _
  have at_13 : ∀ (m : Nat) (L : jL) (nu k : Int) (wv : Int64), (300 - k).toNat = m → jGet L 0 = some (.ref 66) → jGet L 1 = some (.long (v)) → jGet L 3 = some (.ref 29) → jGet L 4 = some (.int (i32 nu)) → jGet L 7 = some (.int (i32 k)) → jGet L 5 = some (.long wv) → ((-2147483648 : Int) ≤ nu ∧ nu ≤ 2147483647) → ((-2147483648 : Int) ≤ k ∧ k ≤ 2147483647) → (0 ≤ k ∧ k ≤ 300) → (0 ≤ nu ∧ nu ≤ k + 1) → wj X d jm263 (13, L, [], rV c0 c1 G A T) (fun o V_q => ∃ (r : Int), V_q = rV c0 c1 G A T ∧ o = .inl (some (.int (i32 r))) ∧ ((-2147483648 : Int) ≤ r ∧ r ≤ 2147483647) ∧ True) := by
    intro m
    induction m using Nat.strongRecOn with
    | ind m ih13 =>
      intro L nu k wv hm gL_0 gL_1 gL_3 gL_4 gL_7 gL_5 rx_nu rx_k iv_0 iv_1
      refine jx_ld (pc_q := 15) (l_q := L) (st_q := [.int (i32 (k))]) rfl (jl_iload gL_7) ?_
      refine jx_ld (pc_q := 16) (l_q := L) (st_q := [.ref 29, .int (i32 (k))]) rfl (jl_aloadn gL_3) ?_
      refine jx_sl (pc_q := 19) (n := 109) rfl rfl rfl ⟨Nat.le_of_ble_eq_true rfl, (by decide)⟩ (by decide) rfl ?_
      refine jx_icmp_ge (pc_q := 22) (tg := 80) rfl rfl rfl (Int.le_trans (by decide : (-2147483648 : Int) ≤ -2147483648) rx_k.1) (Int.le_trans rx_k.2 (by decide : (2147483647 : Int) ≤ 2147483647)) (by decide) (by decide) (fun h1 => ?_) (fun h1 => ?_)
      · have _q := h1
        refine jx_ar (pc_q := 81) (st_q := [.int (i32 (0))]) rfl rfl rfl rfl ?_
        refine jx_rt (v := some (.int (i32 (0)))) rfl rfl rfl rfl rfl rfl ?_
        exact ⟨_, rfl, rfl, by omega, trivial⟩
      · have _q := h1
        refine jx_ld (pc_q := 23) (l_q := L) (st_q := [.ref 29]) rfl (jl_aloadn gL_3) ?_
        refine jx_ld (pc_q := 25) (l_q := L) (st_q := [.int (i32 (k)), .ref 29]) rfl (jl_iload gL_7) ?_
        refine jx_sc (pc_q := 28) (n := 109) rfl rfl rfl ⟨Nat.le_of_ble_eq_true rfl, (by decide)⟩ (by decide) (by omega) (by omega) (by omega) rfl (fun r2 hr2 => ?_)
        refine jx_ar (pc_q := 30) (st_q := [.int (i32 (44)), .int (i32 (r2))]) rfl rfl rfl rfl ?_
        refine jx_icmp_eq (pc_q := 33) (tg := 58) rfl rfl rfl (by omega) (by omega) (by decide) (by decide) (fun h3 => ?_) (fun h3 => ?_)
        · have _q := h3
          refine jx_ld (pc_q := 60) (l_q := L) (st_q := [.long (wv)]) rfl (jl_lload gL_5) ?_
          refine jx_ld (pc_q := 61) (l_q := L) (st_q := [.long (v), .long (wv)]) rfl (jl_lloadn gL_1) ?_
          refine jx_lcmp (pc_q := 62) rfl rfl (fun r4 hr4 => ?_)
          refine jx_if_ne (pc_q := 65) (tg := 68) rfl rfl rfl (by omega) (by omega) (fun h5 => ?_) (fun h5 => ?_)
          · have _q := h5
            refine jx_inc (pc_q := 71) (l_q := jSto1 L 4 (.int (i32 ((nu + (1)))))) (x := nu) rfl gL_4 (by decide) rfl rfl ?_
            obtain ⟨L6, eL6⟩ : ∃ q, q = jSto1 L 4 (.int (i32 ((nu + (1))))) := ⟨_, rfl⟩
            rw [← eL6]
            have gL6_0 : jGet L6 0 = some (.ref 66) := eL6 ▸ jg_ne (by decide) gL_0 rfl
            have gL6_1 : jGet L6 1 = some (.long (v)) := eL6 ▸ jg_nel (by decide) gL_1 (by decide)
            have gL6_3 : jGet L6 3 = some (.ref 29) := eL6 ▸ jg_ne (by decide) gL_3 rfl
            have gL6_7 : jGet L6 7 = some (.int (i32 (k))) := eL6 ▸ jg_ne (by decide) gL_7 rfl
            have gL6_5 : jGet L6 5 = some (.long (wv)) := eL6 ▸ jg_nel (by decide) gL_5 (by decide)
            have gL6_4 : jGet L6 4 = some (.int (i32 ((nu + (1))))) := eL6 ▸ jg_eq
            refine jx_ar (pc_q := 72) (st_q := [.long (Int64.ofNat 0)]) rfl rfl rfl rfl ?_
            refine jx_ld (pc_q := 74) (l_q := jSto2 L6 5 (.long (Int64.ofNat 0))) (st_q := []) rfl rfl ?_
            obtain ⟨L7, eL7⟩ : ∃ q, q = jSto2 L6 5 (.long (Int64.ofNat 0)) := ⟨_, rfl⟩
            rw [← eL7]
            have gL7_0 : jGet L7 0 = some (.ref 66) := eL7 ▸ jg_ne2 (by decide) (by decide) gL6_0 (.inl rfl)
            have gL7_1 : jGet L7 1 = some (.long (v)) := eL7 ▸ jg_ne2 (by decide) (by decide) gL6_1 (.inr (by decide))
            have gL7_3 : jGet L7 3 = some (.ref 29) := eL7 ▸ jg_ne2 (by decide) (by decide) gL6_3 (.inl rfl)
            have gL7_7 : jGet L7 7 = some (.int (i32 (k))) := eL7 ▸ jg_ne2 (by decide) (by decide) gL6_7 (.inl rfl)
            have gL7_4 : jGet L7 4 = some (.int (i32 ((nu + (1))))) := eL7 ▸ jg_ne2 (by decide) (by decide) gL6_4 (.inl rfl)
            have gL7_5 : jGet L7 5 = some (.long (Int64.ofNat 0)) := eL7 ▸ jg_eq2
            refine jx_inc (pc_q := 77) (l_q := jSto1 L7 7 (.int (i32 ((k + (1)))))) (x := k) rfl gL7_7 (by decide) rfl rfl ?_
            obtain ⟨L8, eL8⟩ : ∃ q, q = jSto1 L7 7 (.int (i32 ((k + (1))))) := ⟨_, rfl⟩
            rw [← eL8]
            have gL8_0 : jGet L8 0 = some (.ref 66) := eL8 ▸ jg_ne (by decide) gL7_0 rfl
            have gL8_1 : jGet L8 1 = some (.long (v)) := eL8 ▸ jg_nel (by decide) gL7_1 (by decide)
            have gL8_3 : jGet L8 3 = some (.ref 29) := eL8 ▸ jg_ne (by decide) gL7_3 rfl
            have gL8_4 : jGet L8 4 = some (.int (i32 ((nu + (1))))) := eL8 ▸ jg_ne (by decide) gL7_4 rfl
            have gL8_5 : jGet L8 5 = some (.long (Int64.ofNat 0)) := eL8 ▸ jg_nel (by decide) gL7_5 (by decide)
            have gL8_7 : jGet L8 7 = some (.int (i32 ((k + (1))))) := eL8 ▸ jg_eq
            refine jx_go (tg := 13) rfl rfl ?_
            exact ih13 _ (by omega) L8 ((nu + (1))) ((k + (1))) (Int64.ofNat 0) rfl gL8_0 gL8_1 gL8_3 gL8_4 gL8_7 gL8_5 (by omega) (by omega) (by omega) (by omega)
          · have _q := h5
            refine jx_ld (pc_q := 67) (l_q := L) (st_q := [.int (i32 (nu))]) rfl (jl_iload gL_4) ?_
            refine jx_rt (v := some (.int (i32 (nu)))) rfl rfl rfl rfl rfl rfl ?_
            exact ⟨_, rfl, rfl, by omega, trivial⟩
        · have _q := h3
          refine jx_hp (pc_q := 36) (st_q := [.long (27)]) rfl rfl rfl rfl rfl rfl ?_
          refine jx_ld (pc_q := 38) (l_q := L) (st_q := [.long (wv), .long (27)]) rfl (jl_lload gL_5) ?_
          refine jx_ar (pc_q := 39) (st_q := .long ((27 : Int64) * (wv)) :: []) rfl rfl rfl rfl ?_
          obtain ⟨y9, ey9⟩ : ∃ q : Int64, q = (27 : Int64) * (wv) := ⟨_, rfl⟩
          rw [← ey9]
          refine jx_ld (pc_q := 40) (l_q := L) (st_q := [.ref 29, .long (y9)]) rfl (jl_aloadn gL_3) ?_
          refine jx_ld (pc_q := 42) (l_q := L) (st_q := [.int (i32 (k)), .ref 29, .long (y9)]) rfl (jl_iload gL_7) ?_
          refine jx_sc (pc_q := 45) (n := 109) rfl rfl rfl ⟨Nat.le_of_ble_eq_true rfl, (by decide)⟩ (by decide) (by omega) (by omega) (by omega) rfl (fun r10 hr10 => ?_)
          refine jx_ar (pc_q := 46) (st_q := .long ((i32 (r10)).toInt64) :: [.long (y9)]) rfl rfl rfl rfl ?_
          obtain ⟨y11, ey11⟩ : ∃ q : Int64, q = (i32 (r10)).toInt64 := ⟨_, rfl⟩
          rw [← ey11]
          refine jx_ar (pc_q := 47) (st_q := .long ((y9 : Int64) + (y11)) :: []) rfl rfl rfl rfl ?_
          obtain ⟨y12, ey12⟩ : ∃ q : Int64, q = (y9 : Int64) + (y11) := ⟨_, rfl⟩
          rw [← ey12]
          refine jx_hp (pc_q := 50) (st_q := [.long (65), .long (y12)]) rfl rfl rfl rfl rfl rfl ?_
          refine jx_ar (pc_q := 51) (st_q := .long ((y12 : Int64) - (65)) :: []) rfl rfl rfl rfl ?_
          obtain ⟨y13, ey13⟩ : ∃ q : Int64, q = (y12 : Int64) - (65) := ⟨_, rfl⟩
          rw [← ey13]
          refine jx_ar (pc_q := 52) (st_q := [.long (Int64.ofNat 1), .long (y13)]) rfl rfl rfl rfl ?_
          refine jx_ar (pc_q := 53) (st_q := .long ((y13 : Int64) + (Int64.ofNat 1)) :: []) rfl rfl rfl rfl ?_
          obtain ⟨y14, ey14⟩ : ∃ q : Int64, q = (y13 : Int64) + (Int64.ofNat 1) := ⟨_, rfl⟩
          rw [← ey14]
          refine jx_ld (pc_q := 55) (l_q := jSto2 L 5 (.long (y14))) (st_q := []) rfl rfl ?_
          obtain ⟨L15, eL15⟩ : ∃ q, q = jSto2 L 5 (.long (y14)) := ⟨_, rfl⟩
          rw [← eL15]
          have gL15_0 : jGet L15 0 = some (.ref 66) := eL15 ▸ jg_ne2 (by decide) (by decide) gL_0 (.inl rfl)
          have gL15_1 : jGet L15 1 = some (.long (v)) := eL15 ▸ jg_ne2 (by decide) (by decide) gL_1 (.inr (by decide))
          have gL15_3 : jGet L15 3 = some (.ref 29) := eL15 ▸ jg_ne2 (by decide) (by decide) gL_3 (.inl rfl)
          have gL15_4 : jGet L15 4 = some (.int (i32 (nu))) := eL15 ▸ jg_ne2 (by decide) (by decide) gL_4 (.inl rfl)
          have gL15_7 : jGet L15 7 = some (.int (i32 (k))) := eL15 ▸ jg_ne2 (by decide) (by decide) gL_7 (.inl rfl)
          have gL15_5 : jGet L15 5 = some (.long (y14)) := eL15 ▸ jg_eq2
          refine jx_go (tg := 74) rfl rfl ?_
          refine jx_inc (pc_q := 77) (l_q := jSto1 L15 7 (.int (i32 ((k + (1)))))) (x := k) rfl gL15_7 (by decide) rfl rfl ?_
          obtain ⟨L16, eL16⟩ : ∃ q, q = jSto1 L15 7 (.int (i32 ((k + (1))))) := ⟨_, rfl⟩
          rw [← eL16]
          have gL16_0 : jGet L16 0 = some (.ref 66) := eL16 ▸ jg_ne (by decide) gL15_0 rfl
          have gL16_1 : jGet L16 1 = some (.long (v)) := eL16 ▸ jg_nel (by decide) gL15_1 (by decide)
          have gL16_3 : jGet L16 3 = some (.ref 29) := eL16 ▸ jg_ne (by decide) gL15_3 rfl
          have gL16_4 : jGet L16 4 = some (.int (i32 (nu))) := eL16 ▸ jg_ne (by decide) gL15_4 rfl
          have gL16_5 : jGet L16 5 = some (.long (y14)) := eL16 ▸ jg_nel (by decide) gL15_5 (by decide)
          have gL16_7 : jGet L16 7 = some (.int (i32 ((k + (1))))) := eL16 ▸ jg_eq
          refine jx_go (tg := 13) rfl rfl ?_
          exact ih13 _ (by omega) L16 (nu) ((k + (1))) (y14) rfl gL16_0 gL16_1 gL16_3 gL16_4 gL16_7 gL16_5 (by omega) (by omega) (by omega) (by omega)
  refine jx_hp (pc_q := 3) (st_q := [.ref 29]) rfl rfl rfl rfl rfl rfl ?_
  refine jx_ld (pc_q := 4) (l_q := jSto1 [(0, .ref 66), (1, .long (v))] 3 (.ref 29)) (st_q := []) rfl rfl ?_
  obtain ⟨L17, eL17⟩ : ∃ q, q = jSto1 [(0, .ref 66), (1, .long (v))] 3 (.ref 29) := ⟨_, rfl⟩
  rw [← eL17]
  have gL17_0 : jGet L17 0 = some (.ref 66) := eL17 ▸ jg_ne (by decide) (rfl : jGet [(0, .ref 66), (1, .long (v))] 0 = some (.ref 66)) rfl
  have gL17_1 : jGet L17 1 = some (.long (v)) := eL17 ▸ jg_nel (by decide) (rfl : jGet [(0, .ref 66), (1, .long (v))] 1 = some (.long (v))) (by decide)
  have gL17_3 : jGet L17 3 = some (.ref 29) := eL17 ▸ jg_eq
  refine jx_ar (pc_q := 5) (st_q := [.int (i32 (1))]) rfl rfl rfl rfl ?_
  refine jx_ld (pc_q := 7) (l_q := jSto1 L17 4 (.int (i32 (1)))) (st_q := []) rfl rfl ?_
  obtain ⟨L18, eL18⟩ : ∃ q, q = jSto1 L17 4 (.int (i32 (1))) := ⟨_, rfl⟩
  rw [← eL18]
  have gL18_0 : jGet L18 0 = some (.ref 66) := eL18 ▸ jg_ne (by decide) gL17_0 rfl
  have gL18_1 : jGet L18 1 = some (.long (v)) := eL18 ▸ jg_nel (by decide) gL17_1 (by decide)
  have gL18_3 : jGet L18 3 = some (.ref 29) := eL18 ▸ jg_ne (by decide) gL17_3 rfl
  have gL18_4 : jGet L18 4 = some (.int (i32 (1))) := eL18 ▸ jg_eq
  refine jx_ar (pc_q := 8) (st_q := [.long (Int64.ofNat 0)]) rfl rfl rfl rfl ?_
  refine jx_ld (pc_q := 10) (l_q := jSto2 L18 5 (.long (Int64.ofNat 0))) (st_q := []) rfl rfl ?_
  obtain ⟨L19, eL19⟩ : ∃ q, q = jSto2 L18 5 (.long (Int64.ofNat 0)) := ⟨_, rfl⟩
  rw [← eL19]
  have gL19_0 : jGet L19 0 = some (.ref 66) := eL19 ▸ jg_ne2 (by decide) (by decide) gL18_0 (.inl rfl)
  have gL19_1 : jGet L19 1 = some (.long (v)) := eL19 ▸ jg_ne2 (by decide) (by decide) gL18_1 (.inr (by decide))
  have gL19_3 : jGet L19 3 = some (.ref 29) := eL19 ▸ jg_ne2 (by decide) (by decide) gL18_3 (.inl rfl)
  have gL19_4 : jGet L19 4 = some (.int (i32 (1))) := eL19 ▸ jg_ne2 (by decide) (by decide) gL18_4 (.inl rfl)
  have gL19_5 : jGet L19 5 = some (.long (Int64.ofNat 0)) := eL19 ▸ jg_eq2
  refine jx_ar (pc_q := 11) (st_q := [.int (i32 (0))]) rfl rfl rfl rfl ?_
  refine jx_ld (pc_q := 13) (l_q := jSto1 L19 7 (.int (i32 (0)))) (st_q := []) rfl rfl ?_
  obtain ⟨L20, eL20⟩ : ∃ q, q = jSto1 L19 7 (.int (i32 (0))) := ⟨_, rfl⟩
  rw [← eL20]
  have gL20_0 : jGet L20 0 = some (.ref 66) := eL20 ▸ jg_ne (by decide) gL19_0 rfl
  have gL20_1 : jGet L20 1 = some (.long (v)) := eL20 ▸ jg_nel (by decide) gL19_1 (by decide)
  have gL20_3 : jGet L20 3 = some (.ref 29) := eL20 ▸ jg_ne (by decide) gL19_3 rfl
  have gL20_4 : jGet L20 4 = some (.int (i32 (1))) := eL20 ▸ jg_ne (by decide) gL19_4 rfl
  have gL20_5 : jGet L20 5 = some (.long (Int64.ofNat 0)) := eL20 ▸ jg_nel (by decide) gL19_5 (by decide)
  have gL20_7 : jGet L20 7 = some (.int (i32 (0))) := eL20 ▸ jg_eq
  exact at_13 _ L20 (1) (0) (Int64.ofNat 0) rfl gL20_0 gL20_1 gL20_3 gL20_4 gL20_7 gL20_5 (by omega) (by omega) (by omega) (by omega)
set_option maxRecDepth 20000 in
set_option maxHeartbeats 4000000 in
theorem c_pair {X : jX} {dd : Nat} {V : jH} {c e : Int} (hd : 1 ≤ dd) (h_c : (-2147483648 : Int) ≤ c ∧ c ≤ 2147483647) (h_e : (-2147483648 : Int) ≤ e ∧ e ≤ 2147483647) : wk X dd 265 [.int (i32 c), .int (i32 e)] V (fun o V_q => ∃ (r : Int), V_q = V ∧ o = .inl (some (.int (i32 r))) ∧ ((-2147483648 : Int) ≤ r ∧ r ≤ 2147483647) ∧ (0 ≤ r ∧ r ≤ 307) ∧ (r = 0 ∨ e ≠ 0) ∧ True) := by
  obtain ⟨d, rfl⟩ : ∃ d, dd = d + 1 := ⟨dd - 1, by omega⟩
  refine wk_of (e := jm265) rfl (Nat.le_of_ble_eq_true rfl) ?_
  show wj X d jm265 (0, [(0, .int (i32 (c))), (1, .int (i32 (e)))], [], V) _
  refine jx_ld (pc_q := 1) (l_q := [(0, .int (i32 (c))), (1, .int (i32 (e)))]) (st_q := [.int (i32 (c))]) rfl (jl_iloadn rfl) ?_
  rcases (by omega : c = 47 ∨ c = 58 ∨ c = 60 ∨ c = 62 ∨ c = 92 ∨ (c ≠ 47 ∧ c ≠ 58 ∧ c ≠ 60 ∧ c ≠ 62 ∧ c ≠ 92)) with h1 | h1 | h1 | h1 | h1 | h1
  · refine jx_swe (z := 47) (tg := 130) h1 rfl rfl rfl rfl ?_
    refine jx_ld (pc_q := 131) (l_q := [(0, .int (i32 (c))), (1, .int (i32 (e)))]) (st_q := [.int (i32 (e))]) rfl (jl_iloadn rfl) ?_
    refine jx_ar (pc_q := 133) (st_q := [.int (i32 (92)), .int (i32 (e))]) rfl rfl rfl rfl ?_
    refine jx_icmp_ne (pc_q := 136) (tg := 142) rfl rfl rfl (Int.le_trans (by decide : (-2147483648 : Int) ≤ -2147483648) h_e.1) (Int.le_trans h_e.2 (by decide : (2147483647 : Int) ≤ 2147483647)) (by decide) (by decide) (fun h2 => ?_) (fun h2 => ?_)
    · have _q := h2
      refine jx_ar (pc_q := 143) (st_q := [.int (i32 (0))]) rfl rfl rfl rfl ?_
      refine jx_rt (v := some (.int (i32 (0)))) rfl rfl rfl rfl rfl rfl ?_
      exact ⟨_, rfl, rfl, by omega, by omega, by omega, trivial⟩
    · have _q := h2
      refine jx_ar (pc_q := 139) (st_q := [.int (i32 (306))]) rfl rfl rfl rfl ?_
      refine jx_go (tg := 143) rfl rfl ?_
      refine jx_rt (v := some (.int (i32 (306)))) rfl rfl rfl rfl rfl rfl ?_
      exact ⟨_, rfl, rfl, by omega, by omega, by omega, trivial⟩
  · refine jx_swe (z := 58) (tg := 52) h1 rfl rfl rfl rfl ?_
    refine jx_ld (pc_q := 53) (l_q := [(0, .int (i32 (c))), (1, .int (i32 (e)))]) (st_q := [.int (i32 (e))]) rfl (jl_iloadn rfl) ?_
    refine jx_ar (pc_q := 55) (st_q := [.int (i32 (61)), .int (i32 (e))]) rfl rfl rfl rfl ?_
    refine jx_icmp_ne (pc_q := 58) (tg := 64) rfl rfl rfl (Int.le_trans (by decide : (-2147483648 : Int) ≤ -2147483648) h_e.1) (Int.le_trans h_e.2 (by decide : (2147483647 : Int) ≤ 2147483647)) (by decide) (by decide) (fun h3 => ?_) (fun h3 => ?_)
    · have _q := h3
      refine jx_ar (pc_q := 65) (st_q := [.int (i32 (0))]) rfl rfl rfl rfl ?_
      refine jx_rt (v := some (.int (i32 (0)))) rfl rfl rfl rfl rfl rfl ?_
      exact ⟨_, rfl, rfl, by omega, by omega, by omega, trivial⟩
    · have _q := h3
      refine jx_ar (pc_q := 61) (st_q := [.int (i32 (300))]) rfl rfl rfl rfl ?_
      refine jx_go (tg := 65) rfl rfl ?_
      refine jx_rt (v := some (.int (i32 (300)))) rfl rfl rfl rfl rfl rfl ?_
      exact ⟨_, rfl, rfl, by omega, by omega, by omega, trivial⟩
  · refine jx_swe (z := 60) (tg := 66) h1 rfl rfl rfl rfl ?_
    refine jx_ld (pc_q := 67) (l_q := [(0, .int (i32 (c))), (1, .int (i32 (e)))]) (st_q := [.int (i32 (e))]) rfl (jl_iloadn rfl) ?_
    refine jx_ar (pc_q := 69) (st_q := [.int (i32 (62)), .int (i32 (e))]) rfl rfl rfl rfl ?_
    refine jx_icmp_ne (pc_q := 72) (tg := 78) rfl rfl rfl (Int.le_trans (by decide : (-2147483648 : Int) ≤ -2147483648) h_e.1) (Int.le_trans h_e.2 (by decide : (2147483647 : Int) ≤ 2147483647)) (by decide) (by decide) (fun h4 => ?_) (fun h4 => ?_)
    · have _q := h4
      refine jx_ld (pc_q := 79) (l_q := [(0, .int (i32 (c))), (1, .int (i32 (e)))]) (st_q := [.int (i32 (e))]) rfl (jl_iloadn rfl) ?_
      refine jx_ar (pc_q := 81) (st_q := [.int (i32 (61)), .int (i32 (e))]) rfl rfl rfl rfl ?_
      refine jx_icmp_ne (pc_q := 84) (tg := 90) rfl rfl rfl (Int.le_trans (by decide : (-2147483648 : Int) ≤ -2147483648) h_e.1) (Int.le_trans h_e.2 (by decide : (2147483647 : Int) ≤ 2147483647)) (by decide) (by decide) (fun h5 => ?_) (fun h5 => ?_)
      · have _q := h5
        refine jx_ld (pc_q := 91) (l_q := [(0, .int (i32 (c))), (1, .int (i32 (e)))]) (st_q := [.int (i32 (e))]) rfl (jl_iloadn rfl) ?_
        refine jx_ar (pc_q := 93) (st_q := [.int (i32 (60)), .int (i32 (e))]) rfl rfl rfl rfl ?_
        refine jx_icmp_ne (pc_q := 96) (tg := 102) rfl rfl rfl (Int.le_trans (by decide : (-2147483648 : Int) ≤ -2147483648) h_e.1) (Int.le_trans h_e.2 (by decide : (2147483647 : Int) ≤ 2147483647)) (by decide) (by decide) (fun h6 => ?_) (fun h6 => ?_)
        · have _q := h6
          refine jx_ar (pc_q := 103) (st_q := [.int (i32 (0))]) rfl rfl rfl rfl ?_
          refine jx_rt (v := some (.int (i32 (0)))) rfl rfl rfl rfl rfl rfl ?_
          exact ⟨_, rfl, rfl, by omega, by omega, by omega, trivial⟩
        · have _q := h6
          refine jx_ar (pc_q := 99) (st_q := [.int (i32 (304))]) rfl rfl rfl rfl ?_
          refine jx_go (tg := 103) rfl rfl ?_
          refine jx_rt (v := some (.int (i32 (304)))) rfl rfl rfl rfl rfl rfl ?_
          exact ⟨_, rfl, rfl, by omega, by omega, by omega, trivial⟩
      · have _q := h5
        refine jx_ar (pc_q := 87) (st_q := [.int (i32 (302))]) rfl rfl rfl rfl ?_
        refine jx_go (tg := 103) rfl rfl ?_
        refine jx_rt (v := some (.int (i32 (302)))) rfl rfl rfl rfl rfl rfl ?_
        exact ⟨_, rfl, rfl, by omega, by omega, by omega, trivial⟩
    · have _q := h4
      refine jx_ar (pc_q := 75) (st_q := [.int (i32 (301))]) rfl rfl rfl rfl ?_
      refine jx_go (tg := 103) rfl rfl ?_
      refine jx_rt (v := some (.int (i32 (301)))) rfl rfl rfl rfl rfl rfl ?_
      exact ⟨_, rfl, rfl, by omega, by omega, by omega, trivial⟩
  · refine jx_swe (z := 62) (tg := 104) h1 rfl rfl rfl rfl ?_
    refine jx_ld (pc_q := 105) (l_q := [(0, .int (i32 (c))), (1, .int (i32 (e)))]) (st_q := [.int (i32 (e))]) rfl (jl_iloadn rfl) ?_
    refine jx_ar (pc_q := 107) (st_q := [.int (i32 (61)), .int (i32 (e))]) rfl rfl rfl rfl ?_
    refine jx_icmp_ne (pc_q := 110) (tg := 116) rfl rfl rfl (Int.le_trans (by decide : (-2147483648 : Int) ≤ -2147483648) h_e.1) (Int.le_trans h_e.2 (by decide : (2147483647 : Int) ≤ 2147483647)) (by decide) (by decide) (fun h7 => ?_) (fun h7 => ?_)
    · have _q := h7
      refine jx_ld (pc_q := 117) (l_q := [(0, .int (i32 (c))), (1, .int (i32 (e)))]) (st_q := [.int (i32 (e))]) rfl (jl_iloadn rfl) ?_
      refine jx_ar (pc_q := 119) (st_q := [.int (i32 (62)), .int (i32 (e))]) rfl rfl rfl rfl ?_
      refine jx_icmp_ne (pc_q := 122) (tg := 128) rfl rfl rfl (Int.le_trans (by decide : (-2147483648 : Int) ≤ -2147483648) h_e.1) (Int.le_trans h_e.2 (by decide : (2147483647 : Int) ≤ 2147483647)) (by decide) (by decide) (fun h8 => ?_) (fun h8 => ?_)
      · have _q := h8
        refine jx_ar (pc_q := 129) (st_q := [.int (i32 (0))]) rfl rfl rfl rfl ?_
        refine jx_rt (v := some (.int (i32 (0)))) rfl rfl rfl rfl rfl rfl ?_
        exact ⟨_, rfl, rfl, by omega, by omega, by omega, trivial⟩
      · have _q := h8
        refine jx_ar (pc_q := 125) (st_q := [.int (i32 (305))]) rfl rfl rfl rfl ?_
        refine jx_go (tg := 129) rfl rfl ?_
        refine jx_rt (v := some (.int (i32 (305)))) rfl rfl rfl rfl rfl rfl ?_
        exact ⟨_, rfl, rfl, by omega, by omega, by omega, trivial⟩
    · have _q := h7
      refine jx_ar (pc_q := 113) (st_q := [.int (i32 (303))]) rfl rfl rfl rfl ?_
      refine jx_go (tg := 129) rfl rfl ?_
      refine jx_rt (v := some (.int (i32 (303)))) rfl rfl rfl rfl rfl rfl ?_
      exact ⟨_, rfl, rfl, by omega, by omega, by omega, trivial⟩
  · refine jx_swe (z := 92) (tg := 144) h1 rfl rfl rfl rfl ?_
    refine jx_ld (pc_q := 145) (l_q := [(0, .int (i32 (c))), (1, .int (i32 (e)))]) (st_q := [.int (i32 (e))]) rfl (jl_iloadn rfl) ?_
    refine jx_ar (pc_q := 147) (st_q := [.int (i32 (47)), .int (i32 (e))]) rfl rfl rfl rfl ?_
    refine jx_icmp_ne (pc_q := 150) (tg := 156) rfl rfl rfl (Int.le_trans (by decide : (-2147483648 : Int) ≤ -2147483648) h_e.1) (Int.le_trans h_e.2 (by decide : (2147483647 : Int) ≤ 2147483647)) (by decide) (by decide) (fun h9 => ?_) (fun h9 => ?_)
    · have _q := h9
      refine jx_ar (pc_q := 157) (st_q := [.int (i32 (0))]) rfl rfl rfl rfl ?_
      refine jx_rt (v := some (.int (i32 (0)))) rfl rfl rfl rfl rfl rfl ?_
      exact ⟨_, rfl, rfl, by omega, by omega, by omega, trivial⟩
    · have _q := h9
      refine jx_ar (pc_q := 153) (st_q := [.int (i32 (307))]) rfl rfl rfl rfl ?_
      refine jx_go (tg := 157) rfl rfl ?_
      refine jx_rt (v := some (.int (i32 (307)))) rfl rfl rfl rfl rfl rfl ?_
      exact ⟨_, rfl, rfl, by omega, by omega, by omega, trivial⟩
  · refine jx_swd (tg := 158) (by omega) (by omega) rfl (by decide) (by simp; omega) rfl ?_
    refine jx_ar (pc_q := 159) (st_q := [.int (i32 (0))]) rfl rfl rfl rfl ?_
    refine jx_rt (v := some (.int (i32 (0)))) rfl rfl rfl rfl rfl rfl ?_
    exact ⟨_, rfl, rfl, by omega, by omega, by omega, trivial⟩
set_option maxRecDepth 20000 in
set_option maxHeartbeats 4000000 in
theorem c_nameToken {X : jX} {dd : Nat} {c0 c1 : jC} {G : Nat → Int} {A : Nat → Nat → Int} {T : jH} {ln le at0 tx : Int} (hd : 3 ≤ dd) (hW : Wk G A) (e_ln : G 9 = ln) (e_le : A 4 (ln).toNat = le) (e_at0 : G 10 = at0) (e_tx : A 0 (at0).toNat = tx) (p_0 : at0 < le) (p_1 : 97 ≤ tx ∧ tx ≤ 122) : wk X dd 260 [.ref 66] (rV c0 c1 G A T) (fun o V_q => ∃ (G_q : Nat → Int) (A_q : Nat → Nat → Int) (at2 : Int) (tk2 : Int), V_q = rV c0 c1 G_q A_q T ∧ o = .inl none ∧ Wk G_q A_q ∧ Fr [10, 11, 14] [] G A G_q A_q ∧ G_q 10 = at2 ∧ G_q 11 = tk2 ∧ (at0 < at2) ∧ (at2 ≤ le) ∧ (1 ≤ tk2) ∧ True) := by
  obtain ⟨d, rfl⟩ : ∃ d, dd = d + 1 := ⟨dd - 1, by omega⟩
  refine wk_of (e := jm260) rfl (Nat.le_of_ble_eq_true rfl) ?_
  show wj X d jm260 (0, [(0, .ref 66)], [], rV c0 c1 G A T) _
  have hF0 : Fr [10, 11, 14] [] G A G A := Fr_rf
  have b_ln : (0 : Int) ≤ ln ∧ ln ≤ 3000 := e_ln ▸ hW.1 9
  have b_le : (0 : Int) ≤ le ∧ le ≤ 3000 := e_le ▸ hW.2 4 _
  have b_at0 : (0 : Int) ≤ at0 ∧ at0 ≤ 3002 := e_at0 ▸ hW.1 10
  have b_tx : (0 : Int) ≤ tx ∧ tx ≤ 126 := e_tx ▸ hW.2 0 _
  have at_7 : ∀ (m : Nat) (L : jL) (Gx : Nat → Int) (Ax : Nat → Nat → Int) (n at1 cur : Int), (le - at1).toNat = m → jGet L 0 = some (.ref 66) → jGet L 1 = some (.int (i32 n)) → Wk Gx Ax → Fr [10, 11, 14] [] G A Gx Ax → Gx 10 = at1 → Ax 0 (at1).toNat = cur → ((-2147483648 : Int) ≤ n ∧ n ≤ 2147483647) → (at0 ≤ at1 ∧ at1 ≤ le) → (at1 = at0 → cur = tx) → (n = at1 - at0) → wj X d jm260 (7, L, [], rV c0 c1 Gx Ax T) (fun o V_q => ∃ (G_q : Nat → Int) (A_q : Nat → Nat → Int) (at2 : Int) (tk2 : Int), V_q = rV c0 c1 G_q A_q T ∧ o = .inl none ∧ Wk G_q A_q ∧ Fr [10, 11, 14] [] G A G_q A_q ∧ G_q 10 = at2 ∧ G_q 11 = tk2 ∧ (at0 < at2) ∧ (at2 ≤ le) ∧ (1 ≤ tk2) ∧ True) := by
    intro m
    induction m using Nat.strongRecOn with
    | ind m ih7 =>
      intro L Gx Ax n at1 cur hm gL_0 gL_1 hWx hFx ex_at1 ex_cur rx_n iv_0 iv_1 iv_2
      have b_at1 : (0 : Int) ≤ at1 ∧ at1 ≤ 3002 := ex_at1 ▸ hWx.1 10
      refine jx_ld (pc_q := 8) (l_q := L) (st_q := [.ref 66]) rfl (jl_aloadn gL_0) ?_
      refine jx_ld (pc_q := 9) (l_q := L) (st_q := [.ref 66, .ref 66]) rfl (jl_aloadn gL_0) ?_
      refine jr_get (pc_q := 12) (i := 10) (v := .int (i32 (at1))) rfl rfl (by decide) (rFv_eq (by decide) (show Gx 10 = at1 from (ex_at1))) rfl ?_
      refine jx_vr (pc_q := 15) (as := [.int (i32 (at1))]) (st := []) rfl rfl rfl rfl ⟨rfl, rfl, Nat.le_of_ble_eq_true rfl⟩ rfl rfl (c_sign (dd := d) (hd := by omega) (hW := hWx) (k := at1) (ln := ln) (e_ln := show Gx 9 = ln from ((hFx.1 9 rfl).trans (e_ln))) (le := le) (e_le := show Ax 4 (ln).toNat = le from (congrFun (hFx.2 4 rfl) _).trans (e_le)) (tx := cur) (e_tx := show Ax 0 (at1).toNat = cur from (ex_cur))  (h_k := ⟨(Int.le_trans (by decide : (-2147483648 : Int) ≤ 0) b_at1.1), (Int.le_trans b_at1.2 (by decide : (3002 : Int) ≤ 2147483647))⟩)  (p_0 := by omega)) (fun o V_q hq => ?_)
      obtain ⟨r1, rfl, rfl, b2, q3⟩ := hq
      refine .inr ⟨_, rfl, ?_⟩
      rcases q3 with ⟨a4, a5⟩ | ⟨a6, a7⟩
      · have _q : True := trivial
        refine jx_st (pc_q := 18) (as := [.int (i32 (r1))]) (st := []) rfl rfl ⟨rfl, Nat.le_of_ble_eq_true rfl⟩ rfl rfl rfl (c_isSmall (dd := d) (hd := by omega) (v := r1)   (h_v := ⟨(Int.le_trans (by decide : (-2147483648 : Int) ≤ -2147483648) b2.1), (Int.le_trans b2.2 (by decide : (2147483647 : Int) ≤ 2147483647))⟩)  ) (fun o V_q hq => ?_)
        obtain ⟨r8, rfl, rfl, b9, q10⟩ := hq
        refine .inr ⟨_, rfl, ?_⟩
        rcases q10 with ⟨rfl, a11, a12⟩ | ⟨rfl, a13⟩
        · have _q : True := trivial
          refine jx_if_ne (pc_q := 21) (tg := 48) rfl rfl rfl (by decide) (by decide) (fun h14 => ?_) (fun h14 => ?_)
          · have _q := h14
            refine jx_ld (pc_q := 49) (l_q := L) (st_q := [.ref 66]) rfl (jl_aloadn gL_0) ?_
            refine jx_ld (pc_q := 50) (l_q := L) (st_q := [.int (i32 (n)), .ref 66]) rfl (jl_iloadn gL_1) ?_
            refine jx_ar (pc_q := 52) (st_q := [.int (i32 (10)), .int (i32 (n)), .ref 66]) rfl rfl rfl rfl ?_
            refine jx_icmp_ge (pc_q := 55) (tg := 78) rfl rfl rfl (Int.le_trans (by decide : (-2147483648 : Int) ≤ -2147483648) rx_n.1) (Int.le_trans rx_n.2 (by decide : (2147483647 : Int) ≤ 2147483647)) (by decide) (by decide) (fun h15 => ?_) (fun h15 => ?_)
            · have _q := h15
              refine jx_ld (pc_q := 79) (l_q := L) (st_q := [.ref 66, .ref 66]) rfl (jl_aloadn gL_0) ?_
              refine jr_get (pc_q := 82) (i := 14) (v := .long (i64 (Gx 14))) rfl rfl (by decide) rfl rfl ?_
              obtain ⟨y16, ey16⟩ : ∃ q : Int64, q = i64 (Gx 14) := ⟨_, rfl⟩
              rw [← ey16]
              have rl17 := i64_rg (y16)
              refine jr_put (pc_q := 85) (i := 14) (z := (y16 : Int64).toInt) rfl rfl (by decide) rfl rfl rfl rfl (congrArg Value.long (i64_of (y16))) rfl ?_
              have hW18 : Wk (uG Gx 14 ((y16 : Int64).toInt)) Ax := Wk_g hWx (show (-9223372036854775808 : Int) ≤ (y16 : Int64).toInt by omega) (show (y16 : Int64).toInt ≤ (9223372036854775807 : Int) by omega)
              have hF19 := Fr_g (z := (y16 : Int64).toInt) (i := 14) hFx (by decide)
              refine jx_inc (pc_q := 88) (l_q := jSto1 L 1 (.int (i32 ((n + (1)))))) (x := n) rfl gL_1 (by decide) rfl rfl ?_
              obtain ⟨L20, eL20⟩ : ∃ q, q = jSto1 L 1 (.int (i32 ((n + (1))))) := ⟨_, rfl⟩
              rw [← eL20]
              have gL20_0 : jGet L20 0 = some (.ref 66) := eL20 ▸ jg_ne (by decide) gL_0 rfl
              have gL20_1 : jGet L20 1 = some (.int (i32 ((n + (1))))) := eL20 ▸ jg_eq
              refine jx_ld (pc_q := 89) (l_q := L20) (st_q := [.ref 66]) rfl (jl_aloadn gL20_0) ?_
              refine jx_ar (pc_q := 90) (st_q := [.ref 66, .ref 66]) rfl rfl rfl rfl ?_
              refine jr_get (pc_q := 93) (i := 10) (v := .int (i32 (at1))) rfl rfl (by decide) (rFv_eq (by decide) (show (uG Gx 14 ((y16 : Int64).toInt)) 10 = at1 from (ex_at1))) rfl ?_
              refine jx_ar (pc_q := 94) (st_q := [.int (i32 (1)), .int (i32 (at1)), .ref 66]) rfl rfl rfl rfl ?_
              refine jx_add (pc_q := 95) rfl rfl ?_
              refine jr_put (pc_q := 98) (i := 10) (z := (at1 + 1)) rfl rfl (by decide) rfl rfl rfl rfl rfl rfl ?_
              have hW21 : Wk (uG (uG Gx 14 ((y16 : Int64).toInt)) 10 ((at1 + 1))) Ax := Wk_g hW18 (show (0 : Int) ≤ (at1 + 1) by omega) (show (at1 + 1) ≤ (3002 : Int) by omega)
              have hF22 := Fr_g (z := (at1 + 1)) (i := 10) hF19 (by decide)
              refine jx_go (tg := 7) rfl rfl ?_
              exact ih7 _ (by omega) L20 (uG (uG Gx 14 ((y16 : Int64).toInt)) 10 ((at1 + 1))) Ax ((n + (1))) ((at1 + 1)) (A 0 ((at1 + 1)).toNat) rfl gL20_0 gL20_1 hW21 hF22 (rfl) ((congrFun (hFx.2 0 rfl) _)) (by omega) (by omega) (by omega) (by omega)
            · have _q := h15
              refine jx_hp (pc_q := 58) (st_q := [.long (38), .ref 66]) rfl rfl rfl rfl rfl rfl ?_
              refine jx_ld (pc_q := 59) (l_q := L) (st_q := [.ref 66, .long (38), .ref 66]) rfl (jl_aloadn gL_0) ?_
              refine jr_get (pc_q := 62) (i := 14) (v := .long (i64 (Gx 14))) rfl rfl (by decide) rfl rfl ?_
              obtain ⟨y23, ey23⟩ : ∃ q : Int64, q = i64 (Gx 14) := ⟨_, rfl⟩
              rw [← ey23]
              refine jx_ar (pc_q := 63) (st_q := .long ((38 : Int64) * (y23)) :: [.ref 66]) rfl rfl rfl rfl ?_
              obtain ⟨y24, ey24⟩ : ∃ q : Int64, q = (38 : Int64) * (y23) := ⟨_, rfl⟩
              rw [← ey24]
              refine jx_ld (pc_q := 64) (l_q := L) (st_q := [.ref 66, .long (y24), .ref 66]) rfl (jl_aloadn gL_0) ?_
              refine jx_ld (pc_q := 65) (l_q := L) (st_q := [.ref 66, .ref 66, .long (y24), .ref 66]) rfl (jl_aloadn gL_0) ?_
              refine jr_get (pc_q := 68) (i := 10) (v := .int (i32 (at1))) rfl rfl (by decide) (rFv_eq (by decide) (show Gx 10 = at1 from (ex_at1))) rfl ?_
              refine jx_vr (pc_q := 71) (as := [.int (i32 (at1))]) (st := [.long (y24), .ref 66]) rfl rfl rfl rfl ⟨rfl, rfl, Nat.le_of_ble_eq_true rfl⟩ rfl rfl (c_sign (dd := d) (hd := by omega) (hW := hWx) (k := at1) (ln := ln) (e_ln := show Gx 9 = ln from ((hFx.1 9 rfl).trans (e_ln))) (le := le) (e_le := show Ax 4 (ln).toNat = le from (congrFun (hFx.2 4 rfl) _).trans (e_le)) (tx := cur) (e_tx := show Ax 0 (at1).toNat = cur from (ex_cur))  (h_k := ⟨(Int.le_trans (by decide : (-2147483648 : Int) ≤ 0) b_at1.1), (Int.le_trans b_at1.2 (by decide : (3002 : Int) ≤ 2147483647))⟩)  (p_0 := by omega)) (fun o V_q hq => ?_)
              obtain ⟨r25, rfl, rfl, b26, q27⟩ := hq
              refine .inr ⟨_, rfl, ?_⟩
              rcases q27 with ⟨a28, a29⟩ | ⟨a30, a31⟩
              · have _q : True := trivial
                refine jx_st (pc_q := 74) (as := [.int (i32 (r25))]) (st := [.long (y24), .ref 66]) rfl rfl ⟨rfl, Nat.le_of_ble_eq_true rfl⟩ rfl rfl rfl (c_digit (dd := d) (hd := by omega) (c := r25)   (h_c := ⟨(Int.le_trans (by decide : (-2147483648 : Int) ≤ -2147483648) b26.1), (Int.le_trans b26.2 (by decide : (2147483647 : Int) ≤ 2147483647))⟩)  ) (fun o V_q hq => ?_)
                obtain ⟨r32, rfl, rfl, -⟩ := hq
                refine .inr ⟨_, rfl, ?_⟩
                refine jx_ar (pc_q := 75) (st_q := .long ((y24 : Int64) + (r32)) :: [.ref 66]) rfl rfl rfl rfl ?_
                obtain ⟨y34, ey34⟩ : ∃ q : Int64, q = (y24 : Int64) + (r32) := ⟨_, rfl⟩
                rw [← ey34]
                refine jx_go (tg := 82) rfl rfl ?_
                have rl35 := i64_rg (y34)
                refine jr_put (pc_q := 85) (i := 14) (z := (y34 : Int64).toInt) rfl rfl (by decide) rfl rfl rfl rfl (congrArg Value.long (i64_of (y34))) rfl ?_
                have hW36 : Wk (uG Gx 14 ((y34 : Int64).toInt)) Ax := Wk_g hWx (show (-9223372036854775808 : Int) ≤ (y34 : Int64).toInt by omega) (show (y34 : Int64).toInt ≤ (9223372036854775807 : Int) by omega)
                have hF37 := Fr_g (z := (y34 : Int64).toInt) (i := 14) hFx (by decide)
                refine jx_inc (pc_q := 88) (l_q := jSto1 L 1 (.int (i32 ((n + (1)))))) (x := n) rfl gL_1 (by decide) rfl rfl ?_
                obtain ⟨L38, eL38⟩ : ∃ q, q = jSto1 L 1 (.int (i32 ((n + (1))))) := ⟨_, rfl⟩
                rw [← eL38]
                have gL38_0 : jGet L38 0 = some (.ref 66) := eL38 ▸ jg_ne (by decide) gL_0 rfl
                have gL38_1 : jGet L38 1 = some (.int (i32 ((n + (1))))) := eL38 ▸ jg_eq
                refine jx_ld (pc_q := 89) (l_q := L38) (st_q := [.ref 66]) rfl (jl_aloadn gL38_0) ?_
                refine jx_ar (pc_q := 90) (st_q := [.ref 66, .ref 66]) rfl rfl rfl rfl ?_
                refine jr_get (pc_q := 93) (i := 10) (v := .int (i32 (at1))) rfl rfl (by decide) (rFv_eq (by decide) (show (uG Gx 14 ((y34 : Int64).toInt)) 10 = at1 from (ex_at1))) rfl ?_
                refine jx_ar (pc_q := 94) (st_q := [.int (i32 (1)), .int (i32 (at1)), .ref 66]) rfl rfl rfl rfl ?_
                refine jx_add (pc_q := 95) rfl rfl ?_
                refine jr_put (pc_q := 98) (i := 10) (z := (at1 + 1)) rfl rfl (by decide) rfl rfl rfl rfl rfl rfl ?_
                have hW39 : Wk (uG (uG Gx 14 ((y34 : Int64).toInt)) 10 ((at1 + 1))) Ax := Wk_g hW36 (show (0 : Int) ≤ (at1 + 1) by omega) (show (at1 + 1) ≤ (3002 : Int) by omega)
                have hF40 := Fr_g (z := (at1 + 1)) (i := 10) hF37 (by decide)
                refine jx_go (tg := 7) rfl rfl ?_
                exact ih7 _ (by omega) L38 (uG (uG Gx 14 ((y34 : Int64).toInt)) 10 ((at1 + 1))) Ax ((n + (1))) ((at1 + 1)) (A 0 ((at1 + 1)).toNat) rfl gL38_0 gL38_1 hW39 hF40 (rfl) ((congrFun (hFx.2 0 rfl) _)) (by omega) (by omega) (by omega) (by omega)
              · have _q : True := trivial
                refine jx_st (pc_q := 74) (as := [.int (i32 (r25))]) (st := [.long (y24), .ref 66]) rfl rfl ⟨rfl, Nat.le_of_ble_eq_true rfl⟩ rfl rfl rfl (c_digit (dd := d) (hd := by omega) (c := r25)   (h_c := ⟨(Int.le_trans (by decide : (-2147483648 : Int) ≤ -2147483648) b26.1), (Int.le_trans b26.2 (by decide : (2147483647 : Int) ≤ 2147483647))⟩)  ) (fun o V_q hq => ?_)
                obtain ⟨r41, rfl, rfl, -⟩ := hq
                refine .inr ⟨_, rfl, ?_⟩
                refine jx_ar (pc_q := 75) (st_q := .long ((y24 : Int64) + (r41)) :: [.ref 66]) rfl rfl rfl rfl ?_
                obtain ⟨y43, ey43⟩ : ∃ q : Int64, q = (y24 : Int64) + (r41) := ⟨_, rfl⟩
                rw [← ey43]
                refine jx_go (tg := 82) rfl rfl ?_
                have rl44 := i64_rg (y43)
                refine jr_put (pc_q := 85) (i := 14) (z := (y43 : Int64).toInt) rfl rfl (by decide) rfl rfl rfl rfl (congrArg Value.long (i64_of (y43))) rfl ?_
                have hW45 : Wk (uG Gx 14 ((y43 : Int64).toInt)) Ax := Wk_g hWx (show (-9223372036854775808 : Int) ≤ (y43 : Int64).toInt by omega) (show (y43 : Int64).toInt ≤ (9223372036854775807 : Int) by omega)
                have hF46 := Fr_g (z := (y43 : Int64).toInt) (i := 14) hFx (by decide)
                refine jx_inc (pc_q := 88) (l_q := jSto1 L 1 (.int (i32 ((n + (1)))))) (x := n) rfl gL_1 (by decide) rfl rfl ?_
                obtain ⟨L47, eL47⟩ : ∃ q, q = jSto1 L 1 (.int (i32 ((n + (1))))) := ⟨_, rfl⟩
                rw [← eL47]
                have gL47_0 : jGet L47 0 = some (.ref 66) := eL47 ▸ jg_ne (by decide) gL_0 rfl
                have gL47_1 : jGet L47 1 = some (.int (i32 ((n + (1))))) := eL47 ▸ jg_eq
                refine jx_ld (pc_q := 89) (l_q := L47) (st_q := [.ref 66]) rfl (jl_aloadn gL47_0) ?_
                refine jx_ar (pc_q := 90) (st_q := [.ref 66, .ref 66]) rfl rfl rfl rfl ?_
                refine jr_get (pc_q := 93) (i := 10) (v := .int (i32 (at1))) rfl rfl (by decide) (rFv_eq (by decide) (show (uG Gx 14 ((y43 : Int64).toInt)) 10 = at1 from (ex_at1))) rfl ?_
                refine jx_ar (pc_q := 94) (st_q := [.int (i32 (1)), .int (i32 (at1)), .ref 66]) rfl rfl rfl rfl ?_
                refine jx_add (pc_q := 95) rfl rfl ?_
                refine jr_put (pc_q := 98) (i := 10) (z := (at1 + 1)) rfl rfl (by decide) rfl rfl rfl rfl rfl rfl ?_
                have hW48 : Wk (uG (uG Gx 14 ((y43 : Int64).toInt)) 10 ((at1 + 1))) Ax := Wk_g hW45 (show (0 : Int) ≤ (at1 + 1) by omega) (show (at1 + 1) ≤ (3002 : Int) by omega)
                have hF49 := Fr_g (z := (at1 + 1)) (i := 10) hF46 (by decide)
                refine jx_go (tg := 7) rfl rfl ?_
                exact ih7 _ (by omega) L47 (uG (uG Gx 14 ((y43 : Int64).toInt)) 10 ((at1 + 1))) Ax ((n + (1))) ((at1 + 1)) (A 0 ((at1 + 1)).toNat) rfl gL47_0 gL47_1 hW48 hF49 (rfl) ((congrFun (hFx.2 0 rfl) _)) (by omega) (by omega) (by omega) (by omega)
          · have _q := h14
            exact absurd h14 (by omega)
        · have _q : True := trivial
          refine jx_if_ne (pc_q := 21) (tg := 48) rfl rfl rfl (by decide) (by decide) (fun h50 => ?_) (fun h50 => ?_)
          · have _q := h50
            exact absurd h50 (by omega)
          · have _q := h50
            refine jx_ld (pc_q := 22) (l_q := L) (st_q := [.ref 66]) rfl (jl_aloadn gL_0) ?_
            refine jx_ld (pc_q := 23) (l_q := L) (st_q := [.ref 66, .ref 66]) rfl (jl_aloadn gL_0) ?_
            refine jr_get (pc_q := 26) (i := 10) (v := .int (i32 (at1))) rfl rfl (by decide) (rFv_eq (by decide) (show Gx 10 = at1 from (ex_at1))) rfl ?_
            refine jx_vr (pc_q := 29) (as := [.int (i32 (at1))]) (st := []) rfl rfl rfl rfl ⟨rfl, rfl, Nat.le_of_ble_eq_true rfl⟩ rfl rfl (c_sign (dd := d) (hd := by omega) (hW := hWx) (k := at1) (ln := ln) (e_ln := show Gx 9 = ln from ((hFx.1 9 rfl).trans (e_ln))) (le := le) (e_le := show Ax 4 (ln).toNat = le from (congrFun (hFx.2 4 rfl) _).trans (e_le)) (tx := cur) (e_tx := show Ax 0 (at1).toNat = cur from (ex_cur))  (h_k := ⟨(Int.le_trans (by decide : (-2147483648 : Int) ≤ 0) b_at1.1), (Int.le_trans b_at1.2 (by decide : (3002 : Int) ≤ 2147483647))⟩)  (p_0 := by omega)) (fun o V_q hq => ?_)
            obtain ⟨r51, rfl, rfl, b52, q53⟩ := hq
            refine .inr ⟨_, rfl, ?_⟩
            rcases q53 with ⟨a54, a55⟩ | ⟨a56, a57⟩
            · have _q : True := trivial
              refine jx_st (pc_q := 32) (as := [.int (i32 (r51))]) (st := []) rfl rfl ⟨rfl, Nat.le_of_ble_eq_true rfl⟩ rfl rfl rfl (c_isDigit (dd := d) (hd := by omega) (v := r51)   (h_v := ⟨(Int.le_trans (by decide : (-2147483648 : Int) ≤ -2147483648) b52.1), (Int.le_trans b52.2 (by decide : (2147483647 : Int) ≤ 2147483647))⟩)  ) (fun o V_q hq => ?_)
              obtain ⟨r58, rfl, rfl, b59, q60⟩ := hq
              refine .inr ⟨_, rfl, ?_⟩
              rcases q60 with ⟨rfl, a61, a62⟩ | ⟨rfl, a63⟩
              · have _q : True := trivial
                refine jx_if_ne (pc_q := 35) (tg := 48) rfl rfl rfl (by decide) (by decide) (fun h64 => ?_) (fun h64 => ?_)
                · have _q := h64
                  refine jx_ld (pc_q := 49) (l_q := L) (st_q := [.ref 66]) rfl (jl_aloadn gL_0) ?_
                  refine jx_ld (pc_q := 50) (l_q := L) (st_q := [.int (i32 (n)), .ref 66]) rfl (jl_iloadn gL_1) ?_
                  refine jx_ar (pc_q := 52) (st_q := [.int (i32 (10)), .int (i32 (n)), .ref 66]) rfl rfl rfl rfl ?_
                  refine jx_icmp_ge (pc_q := 55) (tg := 78) rfl rfl rfl (Int.le_trans (by decide : (-2147483648 : Int) ≤ -2147483648) rx_n.1) (Int.le_trans rx_n.2 (by decide : (2147483647 : Int) ≤ 2147483647)) (by decide) (by decide) (fun h65 => ?_) (fun h65 => ?_)
                  · have _q := h65
                    refine jx_ld (pc_q := 79) (l_q := L) (st_q := [.ref 66, .ref 66]) rfl (jl_aloadn gL_0) ?_
                    refine jr_get (pc_q := 82) (i := 14) (v := .long (i64 (Gx 14))) rfl rfl (by decide) rfl rfl ?_
                    obtain ⟨y66, ey66⟩ : ∃ q : Int64, q = i64 (Gx 14) := ⟨_, rfl⟩
                    rw [← ey66]
                    have rl67 := i64_rg (y66)
                    refine jr_put (pc_q := 85) (i := 14) (z := (y66 : Int64).toInt) rfl rfl (by decide) rfl rfl rfl rfl (congrArg Value.long (i64_of (y66))) rfl ?_
                    have hW68 : Wk (uG Gx 14 ((y66 : Int64).toInt)) Ax := Wk_g hWx (show (-9223372036854775808 : Int) ≤ (y66 : Int64).toInt by omega) (show (y66 : Int64).toInt ≤ (9223372036854775807 : Int) by omega)
                    have hF69 := Fr_g (z := (y66 : Int64).toInt) (i := 14) hFx (by decide)
                    refine jx_inc (pc_q := 88) (l_q := jSto1 L 1 (.int (i32 ((n + (1)))))) (x := n) rfl gL_1 (by decide) rfl rfl ?_
                    obtain ⟨L70, eL70⟩ : ∃ q, q = jSto1 L 1 (.int (i32 ((n + (1))))) := ⟨_, rfl⟩
                    rw [← eL70]
                    have gL70_0 : jGet L70 0 = some (.ref 66) := eL70 ▸ jg_ne (by decide) gL_0 rfl
                    have gL70_1 : jGet L70 1 = some (.int (i32 ((n + (1))))) := eL70 ▸ jg_eq
                    refine jx_ld (pc_q := 89) (l_q := L70) (st_q := [.ref 66]) rfl (jl_aloadn gL70_0) ?_
                    refine jx_ar (pc_q := 90) (st_q := [.ref 66, .ref 66]) rfl rfl rfl rfl ?_
                    refine jr_get (pc_q := 93) (i := 10) (v := .int (i32 (at1))) rfl rfl (by decide) (rFv_eq (by decide) (show (uG Gx 14 ((y66 : Int64).toInt)) 10 = at1 from (ex_at1))) rfl ?_
                    refine jx_ar (pc_q := 94) (st_q := [.int (i32 (1)), .int (i32 (at1)), .ref 66]) rfl rfl rfl rfl ?_
                    refine jx_add (pc_q := 95) rfl rfl ?_
                    refine jr_put (pc_q := 98) (i := 10) (z := (at1 + 1)) rfl rfl (by decide) rfl rfl rfl rfl rfl rfl ?_
                    have hW71 : Wk (uG (uG Gx 14 ((y66 : Int64).toInt)) 10 ((at1 + 1))) Ax := Wk_g hW68 (show (0 : Int) ≤ (at1 + 1) by omega) (show (at1 + 1) ≤ (3002 : Int) by omega)
                    have hF72 := Fr_g (z := (at1 + 1)) (i := 10) hF69 (by decide)
                    refine jx_go (tg := 7) rfl rfl ?_
                    exact ih7 _ (by omega) L70 (uG (uG Gx 14 ((y66 : Int64).toInt)) 10 ((at1 + 1))) Ax ((n + (1))) ((at1 + 1)) (A 0 ((at1 + 1)).toNat) rfl gL70_0 gL70_1 hW71 hF72 (rfl) ((congrFun (hFx.2 0 rfl) _)) (by omega) (by omega) (by omega) (by omega)
                  · have _q := h65
                    refine jx_hp (pc_q := 58) (st_q := [.long (38), .ref 66]) rfl rfl rfl rfl rfl rfl ?_
                    refine jx_ld (pc_q := 59) (l_q := L) (st_q := [.ref 66, .long (38), .ref 66]) rfl (jl_aloadn gL_0) ?_
                    refine jr_get (pc_q := 62) (i := 14) (v := .long (i64 (Gx 14))) rfl rfl (by decide) rfl rfl ?_
                    obtain ⟨y73, ey73⟩ : ∃ q : Int64, q = i64 (Gx 14) := ⟨_, rfl⟩
                    rw [← ey73]
                    refine jx_ar (pc_q := 63) (st_q := .long ((38 : Int64) * (y73)) :: [.ref 66]) rfl rfl rfl rfl ?_
                    obtain ⟨y74, ey74⟩ : ∃ q : Int64, q = (38 : Int64) * (y73) := ⟨_, rfl⟩
                    rw [← ey74]
                    refine jx_ld (pc_q := 64) (l_q := L) (st_q := [.ref 66, .long (y74), .ref 66]) rfl (jl_aloadn gL_0) ?_
                    refine jx_ld (pc_q := 65) (l_q := L) (st_q := [.ref 66, .ref 66, .long (y74), .ref 66]) rfl (jl_aloadn gL_0) ?_
                    refine jr_get (pc_q := 68) (i := 10) (v := .int (i32 (at1))) rfl rfl (by decide) (rFv_eq (by decide) (show Gx 10 = at1 from (ex_at1))) rfl ?_
                    refine jx_vr (pc_q := 71) (as := [.int (i32 (at1))]) (st := [.long (y74), .ref 66]) rfl rfl rfl rfl ⟨rfl, rfl, Nat.le_of_ble_eq_true rfl⟩ rfl rfl (c_sign (dd := d) (hd := by omega) (hW := hWx) (k := at1) (ln := ln) (e_ln := show Gx 9 = ln from ((hFx.1 9 rfl).trans (e_ln))) (le := le) (e_le := show Ax 4 (ln).toNat = le from (congrFun (hFx.2 4 rfl) _).trans (e_le)) (tx := cur) (e_tx := show Ax 0 (at1).toNat = cur from (ex_cur))  (h_k := ⟨(Int.le_trans (by decide : (-2147483648 : Int) ≤ 0) b_at1.1), (Int.le_trans b_at1.2 (by decide : (3002 : Int) ≤ 2147483647))⟩)  (p_0 := by omega)) (fun o V_q hq => ?_)
                    obtain ⟨r75, rfl, rfl, b76, q77⟩ := hq
                    refine .inr ⟨_, rfl, ?_⟩
                    rcases q77 with ⟨a78, a79⟩ | ⟨a80, a81⟩
                    · have _q : True := trivial
                      refine jx_st (pc_q := 74) (as := [.int (i32 (r75))]) (st := [.long (y74), .ref 66]) rfl rfl ⟨rfl, Nat.le_of_ble_eq_true rfl⟩ rfl rfl rfl (c_digit (dd := d) (hd := by omega) (c := r75)   (h_c := ⟨(Int.le_trans (by decide : (-2147483648 : Int) ≤ -2147483648) b76.1), (Int.le_trans b76.2 (by decide : (2147483647 : Int) ≤ 2147483647))⟩)  ) (fun o V_q hq => ?_)
                      obtain ⟨r82, rfl, rfl, -⟩ := hq
                      refine .inr ⟨_, rfl, ?_⟩
                      refine jx_ar (pc_q := 75) (st_q := .long ((y74 : Int64) + (r82)) :: [.ref 66]) rfl rfl rfl rfl ?_
                      obtain ⟨y84, ey84⟩ : ∃ q : Int64, q = (y74 : Int64) + (r82) := ⟨_, rfl⟩
                      rw [← ey84]
                      refine jx_go (tg := 82) rfl rfl ?_
                      have rl85 := i64_rg (y84)
                      refine jr_put (pc_q := 85) (i := 14) (z := (y84 : Int64).toInt) rfl rfl (by decide) rfl rfl rfl rfl (congrArg Value.long (i64_of (y84))) rfl ?_
                      have hW86 : Wk (uG Gx 14 ((y84 : Int64).toInt)) Ax := Wk_g hWx (show (-9223372036854775808 : Int) ≤ (y84 : Int64).toInt by omega) (show (y84 : Int64).toInt ≤ (9223372036854775807 : Int) by omega)
                      have hF87 := Fr_g (z := (y84 : Int64).toInt) (i := 14) hFx (by decide)
                      refine jx_inc (pc_q := 88) (l_q := jSto1 L 1 (.int (i32 ((n + (1)))))) (x := n) rfl gL_1 (by decide) rfl rfl ?_
                      obtain ⟨L88, eL88⟩ : ∃ q, q = jSto1 L 1 (.int (i32 ((n + (1))))) := ⟨_, rfl⟩
                      rw [← eL88]
                      have gL88_0 : jGet L88 0 = some (.ref 66) := eL88 ▸ jg_ne (by decide) gL_0 rfl
                      have gL88_1 : jGet L88 1 = some (.int (i32 ((n + (1))))) := eL88 ▸ jg_eq
                      refine jx_ld (pc_q := 89) (l_q := L88) (st_q := [.ref 66]) rfl (jl_aloadn gL88_0) ?_
                      refine jx_ar (pc_q := 90) (st_q := [.ref 66, .ref 66]) rfl rfl rfl rfl ?_
                      refine jr_get (pc_q := 93) (i := 10) (v := .int (i32 (at1))) rfl rfl (by decide) (rFv_eq (by decide) (show (uG Gx 14 ((y84 : Int64).toInt)) 10 = at1 from (ex_at1))) rfl ?_
                      refine jx_ar (pc_q := 94) (st_q := [.int (i32 (1)), .int (i32 (at1)), .ref 66]) rfl rfl rfl rfl ?_
                      refine jx_add (pc_q := 95) rfl rfl ?_
                      refine jr_put (pc_q := 98) (i := 10) (z := (at1 + 1)) rfl rfl (by decide) rfl rfl rfl rfl rfl rfl ?_
                      have hW89 : Wk (uG (uG Gx 14 ((y84 : Int64).toInt)) 10 ((at1 + 1))) Ax := Wk_g hW86 (show (0 : Int) ≤ (at1 + 1) by omega) (show (at1 + 1) ≤ (3002 : Int) by omega)
                      have hF90 := Fr_g (z := (at1 + 1)) (i := 10) hF87 (by decide)
                      refine jx_go (tg := 7) rfl rfl ?_
                      exact ih7 _ (by omega) L88 (uG (uG Gx 14 ((y84 : Int64).toInt)) 10 ((at1 + 1))) Ax ((n + (1))) ((at1 + 1)) (A 0 ((at1 + 1)).toNat) rfl gL88_0 gL88_1 hW89 hF90 (rfl) ((congrFun (hFx.2 0 rfl) _)) (by omega) (by omega) (by omega) (by omega)
                    · have _q : True := trivial
                      refine jx_st (pc_q := 74) (as := [.int (i32 (r75))]) (st := [.long (y74), .ref 66]) rfl rfl ⟨rfl, Nat.le_of_ble_eq_true rfl⟩ rfl rfl rfl (c_digit (dd := d) (hd := by omega) (c := r75)   (h_c := ⟨(Int.le_trans (by decide : (-2147483648 : Int) ≤ -2147483648) b76.1), (Int.le_trans b76.2 (by decide : (2147483647 : Int) ≤ 2147483647))⟩)  ) (fun o V_q hq => ?_)
                      obtain ⟨r91, rfl, rfl, -⟩ := hq
                      refine .inr ⟨_, rfl, ?_⟩
                      refine jx_ar (pc_q := 75) (st_q := .long ((y74 : Int64) + (r91)) :: [.ref 66]) rfl rfl rfl rfl ?_
                      obtain ⟨y93, ey93⟩ : ∃ q : Int64, q = (y74 : Int64) + (r91) := ⟨_, rfl⟩
                      rw [← ey93]
                      refine jx_go (tg := 82) rfl rfl ?_
                      have rl94 := i64_rg (y93)
                      refine jr_put (pc_q := 85) (i := 14) (z := (y93 : Int64).toInt) rfl rfl (by decide) rfl rfl rfl rfl (congrArg Value.long (i64_of (y93))) rfl ?_
                      have hW95 : Wk (uG Gx 14 ((y93 : Int64).toInt)) Ax := Wk_g hWx (show (-9223372036854775808 : Int) ≤ (y93 : Int64).toInt by omega) (show (y93 : Int64).toInt ≤ (9223372036854775807 : Int) by omega)
                      have hF96 := Fr_g (z := (y93 : Int64).toInt) (i := 14) hFx (by decide)
                      refine jx_inc (pc_q := 88) (l_q := jSto1 L 1 (.int (i32 ((n + (1)))))) (x := n) rfl gL_1 (by decide) rfl rfl ?_
                      obtain ⟨L97, eL97⟩ : ∃ q, q = jSto1 L 1 (.int (i32 ((n + (1))))) := ⟨_, rfl⟩
                      rw [← eL97]
                      have gL97_0 : jGet L97 0 = some (.ref 66) := eL97 ▸ jg_ne (by decide) gL_0 rfl
                      have gL97_1 : jGet L97 1 = some (.int (i32 ((n + (1))))) := eL97 ▸ jg_eq
                      refine jx_ld (pc_q := 89) (l_q := L97) (st_q := [.ref 66]) rfl (jl_aloadn gL97_0) ?_
                      refine jx_ar (pc_q := 90) (st_q := [.ref 66, .ref 66]) rfl rfl rfl rfl ?_
                      refine jr_get (pc_q := 93) (i := 10) (v := .int (i32 (at1))) rfl rfl (by decide) (rFv_eq (by decide) (show (uG Gx 14 ((y93 : Int64).toInt)) 10 = at1 from (ex_at1))) rfl ?_
                      refine jx_ar (pc_q := 94) (st_q := [.int (i32 (1)), .int (i32 (at1)), .ref 66]) rfl rfl rfl rfl ?_
                      refine jx_add (pc_q := 95) rfl rfl ?_
                      refine jr_put (pc_q := 98) (i := 10) (z := (at1 + 1)) rfl rfl (by decide) rfl rfl rfl rfl rfl rfl ?_
                      have hW98 : Wk (uG (uG Gx 14 ((y93 : Int64).toInt)) 10 ((at1 + 1))) Ax := Wk_g hW95 (show (0 : Int) ≤ (at1 + 1) by omega) (show (at1 + 1) ≤ (3002 : Int) by omega)
                      have hF99 := Fr_g (z := (at1 + 1)) (i := 10) hF96 (by decide)
                      refine jx_go (tg := 7) rfl rfl ?_
                      exact ih7 _ (by omega) L97 (uG (uG Gx 14 ((y93 : Int64).toInt)) 10 ((at1 + 1))) Ax ((n + (1))) ((at1 + 1)) (A 0 ((at1 + 1)).toNat) rfl gL97_0 gL97_1 hW98 hF99 (rfl) ((congrFun (hFx.2 0 rfl) _)) (by omega) (by omega) (by omega) (by omega)
                · have _q := h64
                  exact absurd h64 (by omega)
              · have _q : True := trivial
                refine jx_if_ne (pc_q := 35) (tg := 48) rfl rfl rfl (by decide) (by decide) (fun h100 => ?_) (fun h100 => ?_)
                · have _q := h100
                  exact absurd h100 (by omega)
                · have _q := h100
                  refine jx_ld (pc_q := 36) (l_q := L) (st_q := [.ref 66]) rfl (jl_aloadn gL_0) ?_
                  refine jx_ld (pc_q := 37) (l_q := L) (st_q := [.ref 66, .ref 66]) rfl (jl_aloadn gL_0) ?_
                  refine jr_get (pc_q := 40) (i := 10) (v := .int (i32 (at1))) rfl rfl (by decide) (rFv_eq (by decide) (show Gx 10 = at1 from (ex_at1))) rfl ?_
                  refine jx_vr (pc_q := 43) (as := [.int (i32 (at1))]) (st := []) rfl rfl rfl rfl ⟨rfl, rfl, Nat.le_of_ble_eq_true rfl⟩ rfl rfl (c_sign (dd := d) (hd := by omega) (hW := hWx) (k := at1) (ln := ln) (e_ln := show Gx 9 = ln from ((hFx.1 9 rfl).trans (e_ln))) (le := le) (e_le := show Ax 4 (ln).toNat = le from (congrFun (hFx.2 4 rfl) _).trans (e_le)) (tx := cur) (e_tx := show Ax 0 (at1).toNat = cur from (ex_cur))  (h_k := ⟨(Int.le_trans (by decide : (-2147483648 : Int) ≤ 0) b_at1.1), (Int.le_trans b_at1.2 (by decide : (3002 : Int) ≤ 2147483647))⟩)  (p_0 := by omega)) (fun o V_q hq => ?_)
                  obtain ⟨r101, rfl, rfl, b102, q103⟩ := hq
                  refine .inr ⟨_, rfl, ?_⟩
                  rcases q103 with ⟨a104, a105⟩ | ⟨a106, a107⟩
                  · have _q : True := trivial
                    refine jx_ar (pc_q := 45) (st_q := [.int (i32 (46)), .int (i32 (r101))]) rfl rfl rfl rfl ?_
                    refine jx_icmp_ne (pc_q := 48) (tg := 101) rfl rfl rfl (Int.le_trans (by decide : (-2147483648 : Int) ≤ -2147483648) b102.1) (Int.le_trans b102.2 (by decide : (2147483647 : Int) ≤ 2147483647)) (by decide) (by decide) (fun h108 => ?_) (fun h108 => ?_)
                    · have _q := h108
                      refine jx_ld (pc_q := 102) (l_q := L) (st_q := [.ref 66]) rfl (jl_aloadn gL_0) ?_
                      refine jx_ld (pc_q := 103) (l_q := L) (st_q := [.int (i32 (n)), .ref 66]) rfl (jl_iloadn gL_1) ?_
                      refine jx_ar (pc_q := 105) (st_q := [.int (i32 (10)), .int (i32 (n)), .ref 66]) rfl rfl rfl rfl ?_
                      refine jx_icmp_le (pc_q := 108) (tg := 112) rfl rfl rfl (Int.le_trans (by decide : (-2147483648 : Int) ≤ -2147483648) rx_n.1) (Int.le_trans rx_n.2 (by decide : (2147483647 : Int) ≤ 2147483647)) (by decide) (by decide) (fun h109 => ?_) (fun h109 => ?_)
                      · have _q := h109
                        refine jx_ar (pc_q := 113) (st_q := [.int (i32 (1)), .ref 66]) rfl rfl rfl rfl ?_
                        refine jr_put (pc_q := 116) (i := 11) (z := 1) rfl rfl (by decide) rfl rfl rfl rfl rfl rfl ?_
                        have hW110 : Wk (uG Gx 11 (1)) Ax := Wk_g hWx (show (0 : Int) ≤ 1 by omega) (show 1 ≤ (5 : Int) by omega)
                        have hF111 := Fr_g (z := 1) (i := 11) hFx (by decide)
                        refine jx_rt (v := none) rfl rfl rfl rfl rfl rfl ?_
                        exact ⟨_, _, at1, 1, rfl, rfl, hW110, hF111, (ex_at1), rfl, by omega, by omega, by omega, trivial⟩
                      · have _q := h109
                        refine jx_ar (pc_q := 109) (st_q := [.int (i32 (5)), .ref 66]) rfl rfl rfl rfl ?_
                        refine jx_go (tg := 113) rfl rfl ?_
                        refine jr_put (pc_q := 116) (i := 11) (z := 5) rfl rfl (by decide) rfl rfl rfl rfl rfl rfl ?_
                        have hW112 : Wk (uG Gx 11 (5)) Ax := Wk_g hWx (show (0 : Int) ≤ 5 by omega) (show 5 ≤ (5 : Int) by omega)
                        have hF113 := Fr_g (z := 5) (i := 11) hFx (by decide)
                        refine jx_rt (v := none) rfl rfl rfl rfl rfl rfl ?_
                        exact ⟨_, _, at1, 5, rfl, rfl, hW112, hF113, (ex_at1), rfl, by omega, by omega, by omega, trivial⟩
                    · have _q := h108
                      refine jx_ld (pc_q := 49) (l_q := L) (st_q := [.ref 66]) rfl (jl_aloadn gL_0) ?_
                      refine jx_ld (pc_q := 50) (l_q := L) (st_q := [.int (i32 (n)), .ref 66]) rfl (jl_iloadn gL_1) ?_
                      refine jx_ar (pc_q := 52) (st_q := [.int (i32 (10)), .int (i32 (n)), .ref 66]) rfl rfl rfl rfl ?_
                      refine jx_icmp_ge (pc_q := 55) (tg := 78) rfl rfl rfl (Int.le_trans (by decide : (-2147483648 : Int) ≤ -2147483648) rx_n.1) (Int.le_trans rx_n.2 (by decide : (2147483647 : Int) ≤ 2147483647)) (by decide) (by decide) (fun h114 => ?_) (fun h114 => ?_)
                      · have _q := h114
                        refine jx_ld (pc_q := 79) (l_q := L) (st_q := [.ref 66, .ref 66]) rfl (jl_aloadn gL_0) ?_
                        refine jr_get (pc_q := 82) (i := 14) (v := .long (i64 (Gx 14))) rfl rfl (by decide) rfl rfl ?_
                        obtain ⟨y115, ey115⟩ : ∃ q : Int64, q = i64 (Gx 14) := ⟨_, rfl⟩
                        rw [← ey115]
                        have rl116 := i64_rg (y115)
                        refine jr_put (pc_q := 85) (i := 14) (z := (y115 : Int64).toInt) rfl rfl (by decide) rfl rfl rfl rfl (congrArg Value.long (i64_of (y115))) rfl ?_
                        have hW117 : Wk (uG Gx 14 ((y115 : Int64).toInt)) Ax := Wk_g hWx (show (-9223372036854775808 : Int) ≤ (y115 : Int64).toInt by omega) (show (y115 : Int64).toInt ≤ (9223372036854775807 : Int) by omega)
                        have hF118 := Fr_g (z := (y115 : Int64).toInt) (i := 14) hFx (by decide)
                        refine jx_inc (pc_q := 88) (l_q := jSto1 L 1 (.int (i32 ((n + (1)))))) (x := n) rfl gL_1 (by decide) rfl rfl ?_
                        obtain ⟨L119, eL119⟩ : ∃ q, q = jSto1 L 1 (.int (i32 ((n + (1))))) := ⟨_, rfl⟩
                        rw [← eL119]
                        have gL119_0 : jGet L119 0 = some (.ref 66) := eL119 ▸ jg_ne (by decide) gL_0 rfl
                        have gL119_1 : jGet L119 1 = some (.int (i32 ((n + (1))))) := eL119 ▸ jg_eq
                        refine jx_ld (pc_q := 89) (l_q := L119) (st_q := [.ref 66]) rfl (jl_aloadn gL119_0) ?_
                        refine jx_ar (pc_q := 90) (st_q := [.ref 66, .ref 66]) rfl rfl rfl rfl ?_
                        refine jr_get (pc_q := 93) (i := 10) (v := .int (i32 (at1))) rfl rfl (by decide) (rFv_eq (by decide) (show (uG Gx 14 ((y115 : Int64).toInt)) 10 = at1 from (ex_at1))) rfl ?_
                        refine jx_ar (pc_q := 94) (st_q := [.int (i32 (1)), .int (i32 (at1)), .ref 66]) rfl rfl rfl rfl ?_
                        refine jx_add (pc_q := 95) rfl rfl ?_
                        refine jr_put (pc_q := 98) (i := 10) (z := (at1 + 1)) rfl rfl (by decide) rfl rfl rfl rfl rfl rfl ?_
                        have hW120 : Wk (uG (uG Gx 14 ((y115 : Int64).toInt)) 10 ((at1 + 1))) Ax := Wk_g hW117 (show (0 : Int) ≤ (at1 + 1) by omega) (show (at1 + 1) ≤ (3002 : Int) by omega)
                        have hF121 := Fr_g (z := (at1 + 1)) (i := 10) hF118 (by decide)
                        refine jx_go (tg := 7) rfl rfl ?_
                        exact ih7 _ (by omega) L119 (uG (uG Gx 14 ((y115 : Int64).toInt)) 10 ((at1 + 1))) Ax ((n + (1))) ((at1 + 1)) (A 0 ((at1 + 1)).toNat) rfl gL119_0 gL119_1 hW120 hF121 (rfl) ((congrFun (hFx.2 0 rfl) _)) (by omega) (by omega) (by omega) (by omega)
                      · have _q := h114
                        refine jx_hp (pc_q := 58) (st_q := [.long (38), .ref 66]) rfl rfl rfl rfl rfl rfl ?_
                        refine jx_ld (pc_q := 59) (l_q := L) (st_q := [.ref 66, .long (38), .ref 66]) rfl (jl_aloadn gL_0) ?_
                        refine jr_get (pc_q := 62) (i := 14) (v := .long (i64 (Gx 14))) rfl rfl (by decide) rfl rfl ?_
                        obtain ⟨y122, ey122⟩ : ∃ q : Int64, q = i64 (Gx 14) := ⟨_, rfl⟩
                        rw [← ey122]
                        refine jx_ar (pc_q := 63) (st_q := .long ((38 : Int64) * (y122)) :: [.ref 66]) rfl rfl rfl rfl ?_
                        obtain ⟨y123, ey123⟩ : ∃ q : Int64, q = (38 : Int64) * (y122) := ⟨_, rfl⟩
                        rw [← ey123]
                        refine jx_ld (pc_q := 64) (l_q := L) (st_q := [.ref 66, .long (y123), .ref 66]) rfl (jl_aloadn gL_0) ?_
                        refine jx_ld (pc_q := 65) (l_q := L) (st_q := [.ref 66, .ref 66, .long (y123), .ref 66]) rfl (jl_aloadn gL_0) ?_
                        refine jr_get (pc_q := 68) (i := 10) (v := .int (i32 (at1))) rfl rfl (by decide) (rFv_eq (by decide) (show Gx 10 = at1 from (ex_at1))) rfl ?_
                        refine jx_vr (pc_q := 71) (as := [.int (i32 (at1))]) (st := [.long (y123), .ref 66]) rfl rfl rfl rfl ⟨rfl, rfl, Nat.le_of_ble_eq_true rfl⟩ rfl rfl (c_sign (dd := d) (hd := by omega) (hW := hWx) (k := at1) (ln := ln) (e_ln := show Gx 9 = ln from ((hFx.1 9 rfl).trans (e_ln))) (le := le) (e_le := show Ax 4 (ln).toNat = le from (congrFun (hFx.2 4 rfl) _).trans (e_le)) (tx := cur) (e_tx := show Ax 0 (at1).toNat = cur from (ex_cur))  (h_k := ⟨(Int.le_trans (by decide : (-2147483648 : Int) ≤ 0) b_at1.1), (Int.le_trans b_at1.2 (by decide : (3002 : Int) ≤ 2147483647))⟩)  (p_0 := by omega)) (fun o V_q hq => ?_)
                        obtain ⟨r124, rfl, rfl, b125, q126⟩ := hq
                        refine .inr ⟨_, rfl, ?_⟩
                        rcases q126 with ⟨a127, a128⟩ | ⟨a129, a130⟩
                        · have _q : True := trivial
                          refine jx_st (pc_q := 74) (as := [.int (i32 (r124))]) (st := [.long (y123), .ref 66]) rfl rfl ⟨rfl, Nat.le_of_ble_eq_true rfl⟩ rfl rfl rfl (c_digit (dd := d) (hd := by omega) (c := r124)   (h_c := ⟨(Int.le_trans (by decide : (-2147483648 : Int) ≤ -2147483648) b125.1), (Int.le_trans b125.2 (by decide : (2147483647 : Int) ≤ 2147483647))⟩)  ) (fun o V_q hq => ?_)
                          obtain ⟨r131, rfl, rfl, -⟩ := hq
                          refine .inr ⟨_, rfl, ?_⟩
                          refine jx_ar (pc_q := 75) (st_q := .long ((y123 : Int64) + (r131)) :: [.ref 66]) rfl rfl rfl rfl ?_
                          obtain ⟨y133, ey133⟩ : ∃ q : Int64, q = (y123 : Int64) + (r131) := ⟨_, rfl⟩
                          rw [← ey133]
                          refine jx_go (tg := 82) rfl rfl ?_
                          have rl134 := i64_rg (y133)
                          refine jr_put (pc_q := 85) (i := 14) (z := (y133 : Int64).toInt) rfl rfl (by decide) rfl rfl rfl rfl (congrArg Value.long (i64_of (y133))) rfl ?_
                          have hW135 : Wk (uG Gx 14 ((y133 : Int64).toInt)) Ax := Wk_g hWx (show (-9223372036854775808 : Int) ≤ (y133 : Int64).toInt by omega) (show (y133 : Int64).toInt ≤ (9223372036854775807 : Int) by omega)
                          have hF136 := Fr_g (z := (y133 : Int64).toInt) (i := 14) hFx (by decide)
                          refine jx_inc (pc_q := 88) (l_q := jSto1 L 1 (.int (i32 ((n + (1)))))) (x := n) rfl gL_1 (by decide) rfl rfl ?_
                          obtain ⟨L137, eL137⟩ : ∃ q, q = jSto1 L 1 (.int (i32 ((n + (1))))) := ⟨_, rfl⟩
                          rw [← eL137]
                          have gL137_0 : jGet L137 0 = some (.ref 66) := eL137 ▸ jg_ne (by decide) gL_0 rfl
                          have gL137_1 : jGet L137 1 = some (.int (i32 ((n + (1))))) := eL137 ▸ jg_eq
                          refine jx_ld (pc_q := 89) (l_q := L137) (st_q := [.ref 66]) rfl (jl_aloadn gL137_0) ?_
                          refine jx_ar (pc_q := 90) (st_q := [.ref 66, .ref 66]) rfl rfl rfl rfl ?_
                          refine jr_get (pc_q := 93) (i := 10) (v := .int (i32 (at1))) rfl rfl (by decide) (rFv_eq (by decide) (show (uG Gx 14 ((y133 : Int64).toInt)) 10 = at1 from (ex_at1))) rfl ?_
                          refine jx_ar (pc_q := 94) (st_q := [.int (i32 (1)), .int (i32 (at1)), .ref 66]) rfl rfl rfl rfl ?_
                          refine jx_add (pc_q := 95) rfl rfl ?_
                          refine jr_put (pc_q := 98) (i := 10) (z := (at1 + 1)) rfl rfl (by decide) rfl rfl rfl rfl rfl rfl ?_
                          have hW138 : Wk (uG (uG Gx 14 ((y133 : Int64).toInt)) 10 ((at1 + 1))) Ax := Wk_g hW135 (show (0 : Int) ≤ (at1 + 1) by omega) (show (at1 + 1) ≤ (3002 : Int) by omega)
                          have hF139 := Fr_g (z := (at1 + 1)) (i := 10) hF136 (by decide)
                          refine jx_go (tg := 7) rfl rfl ?_
                          exact ih7 _ (by omega) L137 (uG (uG Gx 14 ((y133 : Int64).toInt)) 10 ((at1 + 1))) Ax ((n + (1))) ((at1 + 1)) (A 0 ((at1 + 1)).toNat) rfl gL137_0 gL137_1 hW138 hF139 (rfl) ((congrFun (hFx.2 0 rfl) _)) (by omega) (by omega) (by omega) (by omega)
                        · have _q : True := trivial
                          refine jx_st (pc_q := 74) (as := [.int (i32 (r124))]) (st := [.long (y123), .ref 66]) rfl rfl ⟨rfl, Nat.le_of_ble_eq_true rfl⟩ rfl rfl rfl (c_digit (dd := d) (hd := by omega) (c := r124)   (h_c := ⟨(Int.le_trans (by decide : (-2147483648 : Int) ≤ -2147483648) b125.1), (Int.le_trans b125.2 (by decide : (2147483647 : Int) ≤ 2147483647))⟩)  ) (fun o V_q hq => ?_)
                          obtain ⟨r140, rfl, rfl, -⟩ := hq
                          refine .inr ⟨_, rfl, ?_⟩
                          refine jx_ar (pc_q := 75) (st_q := .long ((y123 : Int64) + (r140)) :: [.ref 66]) rfl rfl rfl rfl ?_
                          obtain ⟨y142, ey142⟩ : ∃ q : Int64, q = (y123 : Int64) + (r140) := ⟨_, rfl⟩
                          rw [← ey142]
                          refine jx_go (tg := 82) rfl rfl ?_
                          have rl143 := i64_rg (y142)
                          refine jr_put (pc_q := 85) (i := 14) (z := (y142 : Int64).toInt) rfl rfl (by decide) rfl rfl rfl rfl (congrArg Value.long (i64_of (y142))) rfl ?_
                          have hW144 : Wk (uG Gx 14 ((y142 : Int64).toInt)) Ax := Wk_g hWx (show (-9223372036854775808 : Int) ≤ (y142 : Int64).toInt by omega) (show (y142 : Int64).toInt ≤ (9223372036854775807 : Int) by omega)
                          have hF145 := Fr_g (z := (y142 : Int64).toInt) (i := 14) hFx (by decide)
                          refine jx_inc (pc_q := 88) (l_q := jSto1 L 1 (.int (i32 ((n + (1)))))) (x := n) rfl gL_1 (by decide) rfl rfl ?_
                          obtain ⟨L146, eL146⟩ : ∃ q, q = jSto1 L 1 (.int (i32 ((n + (1))))) := ⟨_, rfl⟩
                          rw [← eL146]
                          have gL146_0 : jGet L146 0 = some (.ref 66) := eL146 ▸ jg_ne (by decide) gL_0 rfl
                          have gL146_1 : jGet L146 1 = some (.int (i32 ((n + (1))))) := eL146 ▸ jg_eq
                          refine jx_ld (pc_q := 89) (l_q := L146) (st_q := [.ref 66]) rfl (jl_aloadn gL146_0) ?_
                          refine jx_ar (pc_q := 90) (st_q := [.ref 66, .ref 66]) rfl rfl rfl rfl ?_
                          refine jr_get (pc_q := 93) (i := 10) (v := .int (i32 (at1))) rfl rfl (by decide) (rFv_eq (by decide) (show (uG Gx 14 ((y142 : Int64).toInt)) 10 = at1 from (ex_at1))) rfl ?_
                          refine jx_ar (pc_q := 94) (st_q := [.int (i32 (1)), .int (i32 (at1)), .ref 66]) rfl rfl rfl rfl ?_
                          refine jx_add (pc_q := 95) rfl rfl ?_
                          refine jr_put (pc_q := 98) (i := 10) (z := (at1 + 1)) rfl rfl (by decide) rfl rfl rfl rfl rfl rfl ?_
                          have hW147 : Wk (uG (uG Gx 14 ((y142 : Int64).toInt)) 10 ((at1 + 1))) Ax := Wk_g hW144 (show (0 : Int) ≤ (at1 + 1) by omega) (show (at1 + 1) ≤ (3002 : Int) by omega)
                          have hF148 := Fr_g (z := (at1 + 1)) (i := 10) hF145 (by decide)
                          refine jx_go (tg := 7) rfl rfl ?_
                          exact ih7 _ (by omega) L146 (uG (uG Gx 14 ((y142 : Int64).toInt)) 10 ((at1 + 1))) Ax ((n + (1))) ((at1 + 1)) (A 0 ((at1 + 1)).toNat) rfl gL146_0 gL146_1 hW147 hF148 (rfl) ((congrFun (hFx.2 0 rfl) _)) (by omega) (by omega) (by omega) (by omega)
                  · have _q : True := trivial
                    refine jx_ar (pc_q := 45) (st_q := [.int (i32 (46)), .int (i32 (r101))]) rfl rfl rfl rfl ?_
                    refine jx_icmp_ne (pc_q := 48) (tg := 101) rfl rfl rfl (Int.le_trans (by decide : (-2147483648 : Int) ≤ -2147483648) b102.1) (Int.le_trans b102.2 (by decide : (2147483647 : Int) ≤ 2147483647)) (by decide) (by decide) (fun h149 => ?_) (fun h149 => ?_)
                    · have _q := h149
                      refine jx_ld (pc_q := 102) (l_q := L) (st_q := [.ref 66]) rfl (jl_aloadn gL_0) ?_
                      refine jx_ld (pc_q := 103) (l_q := L) (st_q := [.int (i32 (n)), .ref 66]) rfl (jl_iloadn gL_1) ?_
                      refine jx_ar (pc_q := 105) (st_q := [.int (i32 (10)), .int (i32 (n)), .ref 66]) rfl rfl rfl rfl ?_
                      refine jx_icmp_le (pc_q := 108) (tg := 112) rfl rfl rfl (Int.le_trans (by decide : (-2147483648 : Int) ≤ -2147483648) rx_n.1) (Int.le_trans rx_n.2 (by decide : (2147483647 : Int) ≤ 2147483647)) (by decide) (by decide) (fun h150 => ?_) (fun h150 => ?_)
                      · have _q := h150
                        refine jx_ar (pc_q := 113) (st_q := [.int (i32 (1)), .ref 66]) rfl rfl rfl rfl ?_
                        refine jr_put (pc_q := 116) (i := 11) (z := 1) rfl rfl (by decide) rfl rfl rfl rfl rfl rfl ?_
                        have hW151 : Wk (uG Gx 11 (1)) Ax := Wk_g hWx (show (0 : Int) ≤ 1 by omega) (show 1 ≤ (5 : Int) by omega)
                        have hF152 := Fr_g (z := 1) (i := 11) hFx (by decide)
                        refine jx_rt (v := none) rfl rfl rfl rfl rfl rfl ?_
                        exact ⟨_, _, at1, 1, rfl, rfl, hW151, hF152, (ex_at1), rfl, by omega, by omega, by omega, trivial⟩
                      · have _q := h150
                        refine jx_ar (pc_q := 109) (st_q := [.int (i32 (5)), .ref 66]) rfl rfl rfl rfl ?_
                        refine jx_go (tg := 113) rfl rfl ?_
                        refine jr_put (pc_q := 116) (i := 11) (z := 5) rfl rfl (by decide) rfl rfl rfl rfl rfl rfl ?_
                        have hW153 : Wk (uG Gx 11 (5)) Ax := Wk_g hWx (show (0 : Int) ≤ 5 by omega) (show 5 ≤ (5 : Int) by omega)
                        have hF154 := Fr_g (z := 5) (i := 11) hFx (by decide)
                        refine jx_rt (v := none) rfl rfl rfl rfl rfl rfl ?_
                        exact ⟨_, _, at1, 5, rfl, rfl, hW153, hF154, (ex_at1), rfl, by omega, by omega, by omega, trivial⟩
                    · have _q := h149
                      refine jx_ld (pc_q := 49) (l_q := L) (st_q := [.ref 66]) rfl (jl_aloadn gL_0) ?_
                      refine jx_ld (pc_q := 50) (l_q := L) (st_q := [.int (i32 (n)), .ref 66]) rfl (jl_iloadn gL_1) ?_
                      refine jx_ar (pc_q := 52) (st_q := [.int (i32 (10)), .int (i32 (n)), .ref 66]) rfl rfl rfl rfl ?_
                      refine jx_icmp_ge (pc_q := 55) (tg := 78) rfl rfl rfl (Int.le_trans (by decide : (-2147483648 : Int) ≤ -2147483648) rx_n.1) (Int.le_trans rx_n.2 (by decide : (2147483647 : Int) ≤ 2147483647)) (by decide) (by decide) (fun h155 => ?_) (fun h155 => ?_)
                      · have _q := h155
                        refine jx_ld (pc_q := 79) (l_q := L) (st_q := [.ref 66, .ref 66]) rfl (jl_aloadn gL_0) ?_
                        refine jr_get (pc_q := 82) (i := 14) (v := .long (i64 (Gx 14))) rfl rfl (by decide) rfl rfl ?_
                        obtain ⟨y156, ey156⟩ : ∃ q : Int64, q = i64 (Gx 14) := ⟨_, rfl⟩
                        rw [← ey156]
                        have rl157 := i64_rg (y156)
                        refine jr_put (pc_q := 85) (i := 14) (z := (y156 : Int64).toInt) rfl rfl (by decide) rfl rfl rfl rfl (congrArg Value.long (i64_of (y156))) rfl ?_
                        have hW158 : Wk (uG Gx 14 ((y156 : Int64).toInt)) Ax := Wk_g hWx (show (-9223372036854775808 : Int) ≤ (y156 : Int64).toInt by omega) (show (y156 : Int64).toInt ≤ (9223372036854775807 : Int) by omega)
                        have hF159 := Fr_g (z := (y156 : Int64).toInt) (i := 14) hFx (by decide)
                        refine jx_inc (pc_q := 88) (l_q := jSto1 L 1 (.int (i32 ((n + (1)))))) (x := n) rfl gL_1 (by decide) rfl rfl ?_
                        obtain ⟨L160, eL160⟩ : ∃ q, q = jSto1 L 1 (.int (i32 ((n + (1))))) := ⟨_, rfl⟩
                        rw [← eL160]
                        have gL160_0 : jGet L160 0 = some (.ref 66) := eL160 ▸ jg_ne (by decide) gL_0 rfl
                        have gL160_1 : jGet L160 1 = some (.int (i32 ((n + (1))))) := eL160 ▸ jg_eq
                        refine jx_ld (pc_q := 89) (l_q := L160) (st_q := [.ref 66]) rfl (jl_aloadn gL160_0) ?_
                        refine jx_ar (pc_q := 90) (st_q := [.ref 66, .ref 66]) rfl rfl rfl rfl ?_
                        refine jr_get (pc_q := 93) (i := 10) (v := .int (i32 (at1))) rfl rfl (by decide) (rFv_eq (by decide) (show (uG Gx 14 ((y156 : Int64).toInt)) 10 = at1 from (ex_at1))) rfl ?_
                        refine jx_ar (pc_q := 94) (st_q := [.int (i32 (1)), .int (i32 (at1)), .ref 66]) rfl rfl rfl rfl ?_
                        refine jx_add (pc_q := 95) rfl rfl ?_
                        refine jr_put (pc_q := 98) (i := 10) (z := (at1 + 1)) rfl rfl (by decide) rfl rfl rfl rfl rfl rfl ?_
                        have hW161 : Wk (uG (uG Gx 14 ((y156 : Int64).toInt)) 10 ((at1 + 1))) Ax := Wk_g hW158 (show (0 : Int) ≤ (at1 + 1) by omega) (show (at1 + 1) ≤ (3002 : Int) by omega)
                        have hF162 := Fr_g (z := (at1 + 1)) (i := 10) hF159 (by decide)
                        refine jx_go (tg := 7) rfl rfl ?_
                        exact ih7 _ (by omega) L160 (uG (uG Gx 14 ((y156 : Int64).toInt)) 10 ((at1 + 1))) Ax ((n + (1))) ((at1 + 1)) (A 0 ((at1 + 1)).toNat) rfl gL160_0 gL160_1 hW161 hF162 (rfl) ((congrFun (hFx.2 0 rfl) _)) (by omega) (by omega) (by omega) (by omega)
                      · have _q := h155
                        refine jx_hp (pc_q := 58) (st_q := [.long (38), .ref 66]) rfl rfl rfl rfl rfl rfl ?_
                        refine jx_ld (pc_q := 59) (l_q := L) (st_q := [.ref 66, .long (38), .ref 66]) rfl (jl_aloadn gL_0) ?_
                        refine jr_get (pc_q := 62) (i := 14) (v := .long (i64 (Gx 14))) rfl rfl (by decide) rfl rfl ?_
                        obtain ⟨y163, ey163⟩ : ∃ q : Int64, q = i64 (Gx 14) := ⟨_, rfl⟩
                        rw [← ey163]
                        refine jx_ar (pc_q := 63) (st_q := .long ((38 : Int64) * (y163)) :: [.ref 66]) rfl rfl rfl rfl ?_
                        obtain ⟨y164, ey164⟩ : ∃ q : Int64, q = (38 : Int64) * (y163) := ⟨_, rfl⟩
                        rw [← ey164]
                        refine jx_ld (pc_q := 64) (l_q := L) (st_q := [.ref 66, .long (y164), .ref 66]) rfl (jl_aloadn gL_0) ?_
                        refine jx_ld (pc_q := 65) (l_q := L) (st_q := [.ref 66, .ref 66, .long (y164), .ref 66]) rfl (jl_aloadn gL_0) ?_
                        refine jr_get (pc_q := 68) (i := 10) (v := .int (i32 (at1))) rfl rfl (by decide) (rFv_eq (by decide) (show Gx 10 = at1 from (ex_at1))) rfl ?_
                        refine jx_vr (pc_q := 71) (as := [.int (i32 (at1))]) (st := [.long (y164), .ref 66]) rfl rfl rfl rfl ⟨rfl, rfl, Nat.le_of_ble_eq_true rfl⟩ rfl rfl (c_sign (dd := d) (hd := by omega) (hW := hWx) (k := at1) (ln := ln) (e_ln := show Gx 9 = ln from ((hFx.1 9 rfl).trans (e_ln))) (le := le) (e_le := show Ax 4 (ln).toNat = le from (congrFun (hFx.2 4 rfl) _).trans (e_le)) (tx := cur) (e_tx := show Ax 0 (at1).toNat = cur from (ex_cur))  (h_k := ⟨(Int.le_trans (by decide : (-2147483648 : Int) ≤ 0) b_at1.1), (Int.le_trans b_at1.2 (by decide : (3002 : Int) ≤ 2147483647))⟩)  (p_0 := by omega)) (fun o V_q hq => ?_)
                        obtain ⟨r165, rfl, rfl, b166, q167⟩ := hq
                        refine .inr ⟨_, rfl, ?_⟩
                        rcases q167 with ⟨a168, a169⟩ | ⟨a170, a171⟩
                        · have _q : True := trivial
                          refine jx_st (pc_q := 74) (as := [.int (i32 (r165))]) (st := [.long (y164), .ref 66]) rfl rfl ⟨rfl, Nat.le_of_ble_eq_true rfl⟩ rfl rfl rfl (c_digit (dd := d) (hd := by omega) (c := r165)   (h_c := ⟨(Int.le_trans (by decide : (-2147483648 : Int) ≤ -2147483648) b166.1), (Int.le_trans b166.2 (by decide : (2147483647 : Int) ≤ 2147483647))⟩)  ) (fun o V_q hq => ?_)
                          obtain ⟨r172, rfl, rfl, -⟩ := hq
                          refine .inr ⟨_, rfl, ?_⟩
                          refine jx_ar (pc_q := 75) (st_q := .long ((y164 : Int64) + (r172)) :: [.ref 66]) rfl rfl rfl rfl ?_
                          obtain ⟨y174, ey174⟩ : ∃ q : Int64, q = (y164 : Int64) + (r172) := ⟨_, rfl⟩
                          rw [← ey174]
                          refine jx_go (tg := 82) rfl rfl ?_
                          have rl175 := i64_rg (y174)
                          refine jr_put (pc_q := 85) (i := 14) (z := (y174 : Int64).toInt) rfl rfl (by decide) rfl rfl rfl rfl (congrArg Value.long (i64_of (y174))) rfl ?_
                          have hW176 : Wk (uG Gx 14 ((y174 : Int64).toInt)) Ax := Wk_g hWx (show (-9223372036854775808 : Int) ≤ (y174 : Int64).toInt by omega) (show (y174 : Int64).toInt ≤ (9223372036854775807 : Int) by omega)
                          have hF177 := Fr_g (z := (y174 : Int64).toInt) (i := 14) hFx (by decide)
                          refine jx_inc (pc_q := 88) (l_q := jSto1 L 1 (.int (i32 ((n + (1)))))) (x := n) rfl gL_1 (by decide) rfl rfl ?_
                          obtain ⟨L178, eL178⟩ : ∃ q, q = jSto1 L 1 (.int (i32 ((n + (1))))) := ⟨_, rfl⟩
                          rw [← eL178]
                          have gL178_0 : jGet L178 0 = some (.ref 66) := eL178 ▸ jg_ne (by decide) gL_0 rfl
                          have gL178_1 : jGet L178 1 = some (.int (i32 ((n + (1))))) := eL178 ▸ jg_eq
                          refine jx_ld (pc_q := 89) (l_q := L178) (st_q := [.ref 66]) rfl (jl_aloadn gL178_0) ?_
                          refine jx_ar (pc_q := 90) (st_q := [.ref 66, .ref 66]) rfl rfl rfl rfl ?_
                          refine jr_get (pc_q := 93) (i := 10) (v := .int (i32 (at1))) rfl rfl (by decide) (rFv_eq (by decide) (show (uG Gx 14 ((y174 : Int64).toInt)) 10 = at1 from (ex_at1))) rfl ?_
                          refine jx_ar (pc_q := 94) (st_q := [.int (i32 (1)), .int (i32 (at1)), .ref 66]) rfl rfl rfl rfl ?_
                          refine jx_add (pc_q := 95) rfl rfl ?_
                          refine jr_put (pc_q := 98) (i := 10) (z := (at1 + 1)) rfl rfl (by decide) rfl rfl rfl rfl rfl rfl ?_
                          have hW179 : Wk (uG (uG Gx 14 ((y174 : Int64).toInt)) 10 ((at1 + 1))) Ax := Wk_g hW176 (show (0 : Int) ≤ (at1 + 1) by omega) (show (at1 + 1) ≤ (3002 : Int) by omega)
                          have hF180 := Fr_g (z := (at1 + 1)) (i := 10) hF177 (by decide)
                          refine jx_go (tg := 7) rfl rfl ?_
                          exact ih7 _ (by omega) L178 (uG (uG Gx 14 ((y174 : Int64).toInt)) 10 ((at1 + 1))) Ax ((n + (1))) ((at1 + 1)) (A 0 ((at1 + 1)).toNat) rfl gL178_0 gL178_1 hW179 hF180 (rfl) ((congrFun (hFx.2 0 rfl) _)) (by omega) (by omega) (by omega) (by omega)
                        · have _q : True := trivial
                          refine jx_st (pc_q := 74) (as := [.int (i32 (r165))]) (st := [.long (y164), .ref 66]) rfl rfl ⟨rfl, Nat.le_of_ble_eq_true rfl⟩ rfl rfl rfl (c_digit (dd := d) (hd := by omega) (c := r165)   (h_c := ⟨(Int.le_trans (by decide : (-2147483648 : Int) ≤ -2147483648) b166.1), (Int.le_trans b166.2 (by decide : (2147483647 : Int) ≤ 2147483647))⟩)  ) (fun o V_q hq => ?_)
                          obtain ⟨r181, rfl, rfl, -⟩ := hq
                          refine .inr ⟨_, rfl, ?_⟩
                          refine jx_ar (pc_q := 75) (st_q := .long ((y164 : Int64) + (r181)) :: [.ref 66]) rfl rfl rfl rfl ?_
                          obtain ⟨y183, ey183⟩ : ∃ q : Int64, q = (y164 : Int64) + (r181) := ⟨_, rfl⟩
                          rw [← ey183]
                          refine jx_go (tg := 82) rfl rfl ?_
                          have rl184 := i64_rg (y183)
                          refine jr_put (pc_q := 85) (i := 14) (z := (y183 : Int64).toInt) rfl rfl (by decide) rfl rfl rfl rfl (congrArg Value.long (i64_of (y183))) rfl ?_
                          have hW185 : Wk (uG Gx 14 ((y183 : Int64).toInt)) Ax := Wk_g hWx (show (-9223372036854775808 : Int) ≤ (y183 : Int64).toInt by omega) (show (y183 : Int64).toInt ≤ (9223372036854775807 : Int) by omega)
                          have hF186 := Fr_g (z := (y183 : Int64).toInt) (i := 14) hFx (by decide)
                          refine jx_inc (pc_q := 88) (l_q := jSto1 L 1 (.int (i32 ((n + (1)))))) (x := n) rfl gL_1 (by decide) rfl rfl ?_
                          obtain ⟨L187, eL187⟩ : ∃ q, q = jSto1 L 1 (.int (i32 ((n + (1))))) := ⟨_, rfl⟩
                          rw [← eL187]
                          have gL187_0 : jGet L187 0 = some (.ref 66) := eL187 ▸ jg_ne (by decide) gL_0 rfl
                          have gL187_1 : jGet L187 1 = some (.int (i32 ((n + (1))))) := eL187 ▸ jg_eq
                          refine jx_ld (pc_q := 89) (l_q := L187) (st_q := [.ref 66]) rfl (jl_aloadn gL187_0) ?_
                          refine jx_ar (pc_q := 90) (st_q := [.ref 66, .ref 66]) rfl rfl rfl rfl ?_
                          refine jr_get (pc_q := 93) (i := 10) (v := .int (i32 (at1))) rfl rfl (by decide) (rFv_eq (by decide) (show (uG Gx 14 ((y183 : Int64).toInt)) 10 = at1 from (ex_at1))) rfl ?_
                          refine jx_ar (pc_q := 94) (st_q := [.int (i32 (1)), .int (i32 (at1)), .ref 66]) rfl rfl rfl rfl ?_
                          refine jx_add (pc_q := 95) rfl rfl ?_
                          refine jr_put (pc_q := 98) (i := 10) (z := (at1 + 1)) rfl rfl (by decide) rfl rfl rfl rfl rfl rfl ?_
                          have hW188 : Wk (uG (uG Gx 14 ((y183 : Int64).toInt)) 10 ((at1 + 1))) Ax := Wk_g hW185 (show (0 : Int) ≤ (at1 + 1) by omega) (show (at1 + 1) ≤ (3002 : Int) by omega)
                          have hF189 := Fr_g (z := (at1 + 1)) (i := 10) hF186 (by decide)
                          refine jx_go (tg := 7) rfl rfl ?_
                          exact ih7 _ (by omega) L187 (uG (uG Gx 14 ((y183 : Int64).toInt)) 10 ((at1 + 1))) Ax ((n + (1))) ((at1 + 1)) (A 0 ((at1 + 1)).toNat) rfl gL187_0 gL187_1 hW188 hF189 (rfl) ((congrFun (hFx.2 0 rfl) _)) (by omega) (by omega) (by omega) (by omega)
            · have _q : True := trivial
              refine jx_st (pc_q := 32) (as := [.int (i32 (r51))]) (st := []) rfl rfl ⟨rfl, Nat.le_of_ble_eq_true rfl⟩ rfl rfl rfl (c_isDigit (dd := d) (hd := by omega) (v := r51)   (h_v := ⟨(Int.le_trans (by decide : (-2147483648 : Int) ≤ -2147483648) b52.1), (Int.le_trans b52.2 (by decide : (2147483647 : Int) ≤ 2147483647))⟩)  ) (fun o V_q hq => ?_)
              obtain ⟨r190, rfl, rfl, b191, q192⟩ := hq
              refine .inr ⟨_, rfl, ?_⟩
              rcases q192 with ⟨rfl, a193, a194⟩ | ⟨rfl, a195⟩
              · have _q : True := trivial
                refine jx_if_ne (pc_q := 35) (tg := 48) rfl rfl rfl (by decide) (by decide) (fun h196 => ?_) (fun h196 => ?_)
                · have _q := h196
                  refine jx_ld (pc_q := 49) (l_q := L) (st_q := [.ref 66]) rfl (jl_aloadn gL_0) ?_
                  refine jx_ld (pc_q := 50) (l_q := L) (st_q := [.int (i32 (n)), .ref 66]) rfl (jl_iloadn gL_1) ?_
                  refine jx_ar (pc_q := 52) (st_q := [.int (i32 (10)), .int (i32 (n)), .ref 66]) rfl rfl rfl rfl ?_
                  refine jx_icmp_ge (pc_q := 55) (tg := 78) rfl rfl rfl (Int.le_trans (by decide : (-2147483648 : Int) ≤ -2147483648) rx_n.1) (Int.le_trans rx_n.2 (by decide : (2147483647 : Int) ≤ 2147483647)) (by decide) (by decide) (fun h197 => ?_) (fun h197 => ?_)
                  · have _q := h197
                    refine jx_ld (pc_q := 79) (l_q := L) (st_q := [.ref 66, .ref 66]) rfl (jl_aloadn gL_0) ?_
                    refine jr_get (pc_q := 82) (i := 14) (v := .long (i64 (Gx 14))) rfl rfl (by decide) rfl rfl ?_
                    obtain ⟨y198, ey198⟩ : ∃ q : Int64, q = i64 (Gx 14) := ⟨_, rfl⟩
                    rw [← ey198]
                    have rl199 := i64_rg (y198)
                    refine jr_put (pc_q := 85) (i := 14) (z := (y198 : Int64).toInt) rfl rfl (by decide) rfl rfl rfl rfl (congrArg Value.long (i64_of (y198))) rfl ?_
                    have hW200 : Wk (uG Gx 14 ((y198 : Int64).toInt)) Ax := Wk_g hWx (show (-9223372036854775808 : Int) ≤ (y198 : Int64).toInt by omega) (show (y198 : Int64).toInt ≤ (9223372036854775807 : Int) by omega)
                    have hF201 := Fr_g (z := (y198 : Int64).toInt) (i := 14) hFx (by decide)
                    refine jx_inc (pc_q := 88) (l_q := jSto1 L 1 (.int (i32 ((n + (1)))))) (x := n) rfl gL_1 (by decide) rfl rfl ?_
                    obtain ⟨L202, eL202⟩ : ∃ q, q = jSto1 L 1 (.int (i32 ((n + (1))))) := ⟨_, rfl⟩
                    rw [← eL202]
                    have gL202_0 : jGet L202 0 = some (.ref 66) := eL202 ▸ jg_ne (by decide) gL_0 rfl
                    have gL202_1 : jGet L202 1 = some (.int (i32 ((n + (1))))) := eL202 ▸ jg_eq
                    refine jx_ld (pc_q := 89) (l_q := L202) (st_q := [.ref 66]) rfl (jl_aloadn gL202_0) ?_
                    refine jx_ar (pc_q := 90) (st_q := [.ref 66, .ref 66]) rfl rfl rfl rfl ?_
                    refine jr_get (pc_q := 93) (i := 10) (v := .int (i32 (at1))) rfl rfl (by decide) (rFv_eq (by decide) (show (uG Gx 14 ((y198 : Int64).toInt)) 10 = at1 from (ex_at1))) rfl ?_
                    refine jx_ar (pc_q := 94) (st_q := [.int (i32 (1)), .int (i32 (at1)), .ref 66]) rfl rfl rfl rfl ?_
                    refine jx_add (pc_q := 95) rfl rfl ?_
                    refine jr_put (pc_q := 98) (i := 10) (z := (at1 + 1)) rfl rfl (by decide) rfl rfl rfl rfl rfl rfl ?_
                    have hW203 : Wk (uG (uG Gx 14 ((y198 : Int64).toInt)) 10 ((at1 + 1))) Ax := Wk_g hW200 (show (0 : Int) ≤ (at1 + 1) by omega) (show (at1 + 1) ≤ (3002 : Int) by omega)
                    have hF204 := Fr_g (z := (at1 + 1)) (i := 10) hF201 (by decide)
                    refine jx_go (tg := 7) rfl rfl ?_
                    exact ih7 _ (by omega) L202 (uG (uG Gx 14 ((y198 : Int64).toInt)) 10 ((at1 + 1))) Ax ((n + (1))) ((at1 + 1)) (A 0 ((at1 + 1)).toNat) rfl gL202_0 gL202_1 hW203 hF204 (rfl) ((congrFun (hFx.2 0 rfl) _)) (by omega) (by omega) (by omega) (by omega)
                  · have _q := h197
                    refine jx_hp (pc_q := 58) (st_q := [.long (38), .ref 66]) rfl rfl rfl rfl rfl rfl ?_
                    refine jx_ld (pc_q := 59) (l_q := L) (st_q := [.ref 66, .long (38), .ref 66]) rfl (jl_aloadn gL_0) ?_
                    refine jr_get (pc_q := 62) (i := 14) (v := .long (i64 (Gx 14))) rfl rfl (by decide) rfl rfl ?_
                    obtain ⟨y205, ey205⟩ : ∃ q : Int64, q = i64 (Gx 14) := ⟨_, rfl⟩
                    rw [← ey205]
                    refine jx_ar (pc_q := 63) (st_q := .long ((38 : Int64) * (y205)) :: [.ref 66]) rfl rfl rfl rfl ?_
                    obtain ⟨y206, ey206⟩ : ∃ q : Int64, q = (38 : Int64) * (y205) := ⟨_, rfl⟩
                    rw [← ey206]
                    refine jx_ld (pc_q := 64) (l_q := L) (st_q := [.ref 66, .long (y206), .ref 66]) rfl (jl_aloadn gL_0) ?_
                    refine jx_ld (pc_q := 65) (l_q := L) (st_q := [.ref 66, .ref 66, .long (y206), .ref 66]) rfl (jl_aloadn gL_0) ?_
                    refine jr_get (pc_q := 68) (i := 10) (v := .int (i32 (at1))) rfl rfl (by decide) (rFv_eq (by decide) (show Gx 10 = at1 from (ex_at1))) rfl ?_
                    refine jx_vr (pc_q := 71) (as := [.int (i32 (at1))]) (st := [.long (y206), .ref 66]) rfl rfl rfl rfl ⟨rfl, rfl, Nat.le_of_ble_eq_true rfl⟩ rfl rfl (c_sign (dd := d) (hd := by omega) (hW := hWx) (k := at1) (ln := ln) (e_ln := show Gx 9 = ln from ((hFx.1 9 rfl).trans (e_ln))) (le := le) (e_le := show Ax 4 (ln).toNat = le from (congrFun (hFx.2 4 rfl) _).trans (e_le)) (tx := cur) (e_tx := show Ax 0 (at1).toNat = cur from (ex_cur))  (h_k := ⟨(Int.le_trans (by decide : (-2147483648 : Int) ≤ 0) b_at1.1), (Int.le_trans b_at1.2 (by decide : (3002 : Int) ≤ 2147483647))⟩)  (p_0 := by omega)) (fun o V_q hq => ?_)
                    obtain ⟨r207, rfl, rfl, b208, q209⟩ := hq
                    refine .inr ⟨_, rfl, ?_⟩
                    rcases q209 with ⟨a210, a211⟩ | ⟨a212, a213⟩
                    · have _q : True := trivial
                      refine jx_st (pc_q := 74) (as := [.int (i32 (r207))]) (st := [.long (y206), .ref 66]) rfl rfl ⟨rfl, Nat.le_of_ble_eq_true rfl⟩ rfl rfl rfl (c_digit (dd := d) (hd := by omega) (c := r207)   (h_c := ⟨(Int.le_trans (by decide : (-2147483648 : Int) ≤ -2147483648) b208.1), (Int.le_trans b208.2 (by decide : (2147483647 : Int) ≤ 2147483647))⟩)  ) (fun o V_q hq => ?_)
                      obtain ⟨r214, rfl, rfl, -⟩ := hq
                      refine .inr ⟨_, rfl, ?_⟩
                      refine jx_ar (pc_q := 75) (st_q := .long ((y206 : Int64) + (r214)) :: [.ref 66]) rfl rfl rfl rfl ?_
                      obtain ⟨y216, ey216⟩ : ∃ q : Int64, q = (y206 : Int64) + (r214) := ⟨_, rfl⟩
                      rw [← ey216]
                      refine jx_go (tg := 82) rfl rfl ?_
                      have rl217 := i64_rg (y216)
                      refine jr_put (pc_q := 85) (i := 14) (z := (y216 : Int64).toInt) rfl rfl (by decide) rfl rfl rfl rfl (congrArg Value.long (i64_of (y216))) rfl ?_
                      have hW218 : Wk (uG Gx 14 ((y216 : Int64).toInt)) Ax := Wk_g hWx (show (-9223372036854775808 : Int) ≤ (y216 : Int64).toInt by omega) (show (y216 : Int64).toInt ≤ (9223372036854775807 : Int) by omega)
                      have hF219 := Fr_g (z := (y216 : Int64).toInt) (i := 14) hFx (by decide)
                      refine jx_inc (pc_q := 88) (l_q := jSto1 L 1 (.int (i32 ((n + (1)))))) (x := n) rfl gL_1 (by decide) rfl rfl ?_
                      obtain ⟨L220, eL220⟩ : ∃ q, q = jSto1 L 1 (.int (i32 ((n + (1))))) := ⟨_, rfl⟩
                      rw [← eL220]
                      have gL220_0 : jGet L220 0 = some (.ref 66) := eL220 ▸ jg_ne (by decide) gL_0 rfl
                      have gL220_1 : jGet L220 1 = some (.int (i32 ((n + (1))))) := eL220 ▸ jg_eq
                      refine jx_ld (pc_q := 89) (l_q := L220) (st_q := [.ref 66]) rfl (jl_aloadn gL220_0) ?_
                      refine jx_ar (pc_q := 90) (st_q := [.ref 66, .ref 66]) rfl rfl rfl rfl ?_
                      refine jr_get (pc_q := 93) (i := 10) (v := .int (i32 (at1))) rfl rfl (by decide) (rFv_eq (by decide) (show (uG Gx 14 ((y216 : Int64).toInt)) 10 = at1 from (ex_at1))) rfl ?_
                      refine jx_ar (pc_q := 94) (st_q := [.int (i32 (1)), .int (i32 (at1)), .ref 66]) rfl rfl rfl rfl ?_
                      refine jx_add (pc_q := 95) rfl rfl ?_
                      refine jr_put (pc_q := 98) (i := 10) (z := (at1 + 1)) rfl rfl (by decide) rfl rfl rfl rfl rfl rfl ?_
                      have hW221 : Wk (uG (uG Gx 14 ((y216 : Int64).toInt)) 10 ((at1 + 1))) Ax := Wk_g hW218 (show (0 : Int) ≤ (at1 + 1) by omega) (show (at1 + 1) ≤ (3002 : Int) by omega)
                      have hF222 := Fr_g (z := (at1 + 1)) (i := 10) hF219 (by decide)
                      refine jx_go (tg := 7) rfl rfl ?_
                      exact ih7 _ (by omega) L220 (uG (uG Gx 14 ((y216 : Int64).toInt)) 10 ((at1 + 1))) Ax ((n + (1))) ((at1 + 1)) (A 0 ((at1 + 1)).toNat) rfl gL220_0 gL220_1 hW221 hF222 (rfl) ((congrFun (hFx.2 0 rfl) _)) (by omega) (by omega) (by omega) (by omega)
                    · have _q : True := trivial
                      refine jx_st (pc_q := 74) (as := [.int (i32 (r207))]) (st := [.long (y206), .ref 66]) rfl rfl ⟨rfl, Nat.le_of_ble_eq_true rfl⟩ rfl rfl rfl (c_digit (dd := d) (hd := by omega) (c := r207)   (h_c := ⟨(Int.le_trans (by decide : (-2147483648 : Int) ≤ -2147483648) b208.1), (Int.le_trans b208.2 (by decide : (2147483647 : Int) ≤ 2147483647))⟩)  ) (fun o V_q hq => ?_)
                      obtain ⟨r223, rfl, rfl, -⟩ := hq
                      refine .inr ⟨_, rfl, ?_⟩
                      refine jx_ar (pc_q := 75) (st_q := .long ((y206 : Int64) + (r223)) :: [.ref 66]) rfl rfl rfl rfl ?_
                      obtain ⟨y225, ey225⟩ : ∃ q : Int64, q = (y206 : Int64) + (r223) := ⟨_, rfl⟩
                      rw [← ey225]
                      refine jx_go (tg := 82) rfl rfl ?_
                      have rl226 := i64_rg (y225)
                      refine jr_put (pc_q := 85) (i := 14) (z := (y225 : Int64).toInt) rfl rfl (by decide) rfl rfl rfl rfl (congrArg Value.long (i64_of (y225))) rfl ?_
                      have hW227 : Wk (uG Gx 14 ((y225 : Int64).toInt)) Ax := Wk_g hWx (show (-9223372036854775808 : Int) ≤ (y225 : Int64).toInt by omega) (show (y225 : Int64).toInt ≤ (9223372036854775807 : Int) by omega)
                      have hF228 := Fr_g (z := (y225 : Int64).toInt) (i := 14) hFx (by decide)
                      refine jx_inc (pc_q := 88) (l_q := jSto1 L 1 (.int (i32 ((n + (1)))))) (x := n) rfl gL_1 (by decide) rfl rfl ?_
                      obtain ⟨L229, eL229⟩ : ∃ q, q = jSto1 L 1 (.int (i32 ((n + (1))))) := ⟨_, rfl⟩
                      rw [← eL229]
                      have gL229_0 : jGet L229 0 = some (.ref 66) := eL229 ▸ jg_ne (by decide) gL_0 rfl
                      have gL229_1 : jGet L229 1 = some (.int (i32 ((n + (1))))) := eL229 ▸ jg_eq
                      refine jx_ld (pc_q := 89) (l_q := L229) (st_q := [.ref 66]) rfl (jl_aloadn gL229_0) ?_
                      refine jx_ar (pc_q := 90) (st_q := [.ref 66, .ref 66]) rfl rfl rfl rfl ?_
                      refine jr_get (pc_q := 93) (i := 10) (v := .int (i32 (at1))) rfl rfl (by decide) (rFv_eq (by decide) (show (uG Gx 14 ((y225 : Int64).toInt)) 10 = at1 from (ex_at1))) rfl ?_
                      refine jx_ar (pc_q := 94) (st_q := [.int (i32 (1)), .int (i32 (at1)), .ref 66]) rfl rfl rfl rfl ?_
                      refine jx_add (pc_q := 95) rfl rfl ?_
                      refine jr_put (pc_q := 98) (i := 10) (z := (at1 + 1)) rfl rfl (by decide) rfl rfl rfl rfl rfl rfl ?_
                      have hW230 : Wk (uG (uG Gx 14 ((y225 : Int64).toInt)) 10 ((at1 + 1))) Ax := Wk_g hW227 (show (0 : Int) ≤ (at1 + 1) by omega) (show (at1 + 1) ≤ (3002 : Int) by omega)
                      have hF231 := Fr_g (z := (at1 + 1)) (i := 10) hF228 (by decide)
                      refine jx_go (tg := 7) rfl rfl ?_
                      exact ih7 _ (by omega) L229 (uG (uG Gx 14 ((y225 : Int64).toInt)) 10 ((at1 + 1))) Ax ((n + (1))) ((at1 + 1)) (A 0 ((at1 + 1)).toNat) rfl gL229_0 gL229_1 hW230 hF231 (rfl) ((congrFun (hFx.2 0 rfl) _)) (by omega) (by omega) (by omega) (by omega)
                · have _q := h196
                  exact absurd h196 (by omega)
              · have _q : True := trivial
                refine jx_if_ne (pc_q := 35) (tg := 48) rfl rfl rfl (by decide) (by decide) (fun h232 => ?_) (fun h232 => ?_)
                · have _q := h232
                  exact absurd h232 (by omega)
                · have _q := h232
                  refine jx_ld (pc_q := 36) (l_q := L) (st_q := [.ref 66]) rfl (jl_aloadn gL_0) ?_
                  refine jx_ld (pc_q := 37) (l_q := L) (st_q := [.ref 66, .ref 66]) rfl (jl_aloadn gL_0) ?_
                  refine jr_get (pc_q := 40) (i := 10) (v := .int (i32 (at1))) rfl rfl (by decide) (rFv_eq (by decide) (show Gx 10 = at1 from (ex_at1))) rfl ?_
                  refine jx_vr (pc_q := 43) (as := [.int (i32 (at1))]) (st := []) rfl rfl rfl rfl ⟨rfl, rfl, Nat.le_of_ble_eq_true rfl⟩ rfl rfl (c_sign (dd := d) (hd := by omega) (hW := hWx) (k := at1) (ln := ln) (e_ln := show Gx 9 = ln from ((hFx.1 9 rfl).trans (e_ln))) (le := le) (e_le := show Ax 4 (ln).toNat = le from (congrFun (hFx.2 4 rfl) _).trans (e_le)) (tx := cur) (e_tx := show Ax 0 (at1).toNat = cur from (ex_cur))  (h_k := ⟨(Int.le_trans (by decide : (-2147483648 : Int) ≤ 0) b_at1.1), (Int.le_trans b_at1.2 (by decide : (3002 : Int) ≤ 2147483647))⟩)  (p_0 := by omega)) (fun o V_q hq => ?_)
                  obtain ⟨r233, rfl, rfl, b234, q235⟩ := hq
                  refine .inr ⟨_, rfl, ?_⟩
                  rcases q235 with ⟨a236, a237⟩ | ⟨a238, a239⟩
                  · have _q : True := trivial
                    refine jx_ar (pc_q := 45) (st_q := [.int (i32 (46)), .int (i32 (r233))]) rfl rfl rfl rfl ?_
                    refine jx_icmp_ne (pc_q := 48) (tg := 101) rfl rfl rfl (Int.le_trans (by decide : (-2147483648 : Int) ≤ -2147483648) b234.1) (Int.le_trans b234.2 (by decide : (2147483647 : Int) ≤ 2147483647)) (by decide) (by decide) (fun h240 => ?_) (fun h240 => ?_)
                    · have _q := h240
                      refine jx_ld (pc_q := 102) (l_q := L) (st_q := [.ref 66]) rfl (jl_aloadn gL_0) ?_
                      refine jx_ld (pc_q := 103) (l_q := L) (st_q := [.int (i32 (n)), .ref 66]) rfl (jl_iloadn gL_1) ?_
                      refine jx_ar (pc_q := 105) (st_q := [.int (i32 (10)), .int (i32 (n)), .ref 66]) rfl rfl rfl rfl ?_
                      refine jx_icmp_le (pc_q := 108) (tg := 112) rfl rfl rfl (Int.le_trans (by decide : (-2147483648 : Int) ≤ -2147483648) rx_n.1) (Int.le_trans rx_n.2 (by decide : (2147483647 : Int) ≤ 2147483647)) (by decide) (by decide) (fun h241 => ?_) (fun h241 => ?_)
                      · have _q := h241
                        refine jx_ar (pc_q := 113) (st_q := [.int (i32 (1)), .ref 66]) rfl rfl rfl rfl ?_
                        refine jr_put (pc_q := 116) (i := 11) (z := 1) rfl rfl (by decide) rfl rfl rfl rfl rfl rfl ?_
                        have hW242 : Wk (uG Gx 11 (1)) Ax := Wk_g hWx (show (0 : Int) ≤ 1 by omega) (show 1 ≤ (5 : Int) by omega)
                        have hF243 := Fr_g (z := 1) (i := 11) hFx (by decide)
                        refine jx_rt (v := none) rfl rfl rfl rfl rfl rfl ?_
                        exact ⟨_, _, at1, 1, rfl, rfl, hW242, hF243, (ex_at1), rfl, by omega, by omega, by omega, trivial⟩
                      · have _q := h241
                        refine jx_ar (pc_q := 109) (st_q := [.int (i32 (5)), .ref 66]) rfl rfl rfl rfl ?_
                        refine jx_go (tg := 113) rfl rfl ?_
                        refine jr_put (pc_q := 116) (i := 11) (z := 5) rfl rfl (by decide) rfl rfl rfl rfl rfl rfl ?_
                        have hW244 : Wk (uG Gx 11 (5)) Ax := Wk_g hWx (show (0 : Int) ≤ 5 by omega) (show 5 ≤ (5 : Int) by omega)
                        have hF245 := Fr_g (z := 5) (i := 11) hFx (by decide)
                        refine jx_rt (v := none) rfl rfl rfl rfl rfl rfl ?_
                        exact ⟨_, _, at1, 5, rfl, rfl, hW244, hF245, (ex_at1), rfl, by omega, by omega, by omega, trivial⟩
                    · have _q := h240
                      refine jx_ld (pc_q := 49) (l_q := L) (st_q := [.ref 66]) rfl (jl_aloadn gL_0) ?_
                      refine jx_ld (pc_q := 50) (l_q := L) (st_q := [.int (i32 (n)), .ref 66]) rfl (jl_iloadn gL_1) ?_
                      refine jx_ar (pc_q := 52) (st_q := [.int (i32 (10)), .int (i32 (n)), .ref 66]) rfl rfl rfl rfl ?_
                      refine jx_icmp_ge (pc_q := 55) (tg := 78) rfl rfl rfl (Int.le_trans (by decide : (-2147483648 : Int) ≤ -2147483648) rx_n.1) (Int.le_trans rx_n.2 (by decide : (2147483647 : Int) ≤ 2147483647)) (by decide) (by decide) (fun h246 => ?_) (fun h246 => ?_)
                      · have _q := h246
                        refine jx_ld (pc_q := 79) (l_q := L) (st_q := [.ref 66, .ref 66]) rfl (jl_aloadn gL_0) ?_
                        refine jr_get (pc_q := 82) (i := 14) (v := .long (i64 (Gx 14))) rfl rfl (by decide) rfl rfl ?_
                        obtain ⟨y247, ey247⟩ : ∃ q : Int64, q = i64 (Gx 14) := ⟨_, rfl⟩
                        rw [← ey247]
                        have rl248 := i64_rg (y247)
                        refine jr_put (pc_q := 85) (i := 14) (z := (y247 : Int64).toInt) rfl rfl (by decide) rfl rfl rfl rfl (congrArg Value.long (i64_of (y247))) rfl ?_
                        have hW249 : Wk (uG Gx 14 ((y247 : Int64).toInt)) Ax := Wk_g hWx (show (-9223372036854775808 : Int) ≤ (y247 : Int64).toInt by omega) (show (y247 : Int64).toInt ≤ (9223372036854775807 : Int) by omega)
                        have hF250 := Fr_g (z := (y247 : Int64).toInt) (i := 14) hFx (by decide)
                        refine jx_inc (pc_q := 88) (l_q := jSto1 L 1 (.int (i32 ((n + (1)))))) (x := n) rfl gL_1 (by decide) rfl rfl ?_
                        obtain ⟨L251, eL251⟩ : ∃ q, q = jSto1 L 1 (.int (i32 ((n + (1))))) := ⟨_, rfl⟩
                        rw [← eL251]
                        have gL251_0 : jGet L251 0 = some (.ref 66) := eL251 ▸ jg_ne (by decide) gL_0 rfl
                        have gL251_1 : jGet L251 1 = some (.int (i32 ((n + (1))))) := eL251 ▸ jg_eq
                        refine jx_ld (pc_q := 89) (l_q := L251) (st_q := [.ref 66]) rfl (jl_aloadn gL251_0) ?_
                        refine jx_ar (pc_q := 90) (st_q := [.ref 66, .ref 66]) rfl rfl rfl rfl ?_
                        refine jr_get (pc_q := 93) (i := 10) (v := .int (i32 (at1))) rfl rfl (by decide) (rFv_eq (by decide) (show (uG Gx 14 ((y247 : Int64).toInt)) 10 = at1 from (ex_at1))) rfl ?_
                        refine jx_ar (pc_q := 94) (st_q := [.int (i32 (1)), .int (i32 (at1)), .ref 66]) rfl rfl rfl rfl ?_
                        refine jx_add (pc_q := 95) rfl rfl ?_
                        refine jr_put (pc_q := 98) (i := 10) (z := (at1 + 1)) rfl rfl (by decide) rfl rfl rfl rfl rfl rfl ?_
                        have hW252 : Wk (uG (uG Gx 14 ((y247 : Int64).toInt)) 10 ((at1 + 1))) Ax := Wk_g hW249 (show (0 : Int) ≤ (at1 + 1) by omega) (show (at1 + 1) ≤ (3002 : Int) by omega)
                        have hF253 := Fr_g (z := (at1 + 1)) (i := 10) hF250 (by decide)
                        refine jx_go (tg := 7) rfl rfl ?_
                        exact ih7 _ (by omega) L251 (uG (uG Gx 14 ((y247 : Int64).toInt)) 10 ((at1 + 1))) Ax ((n + (1))) ((at1 + 1)) (A 0 ((at1 + 1)).toNat) rfl gL251_0 gL251_1 hW252 hF253 (rfl) ((congrFun (hFx.2 0 rfl) _)) (by omega) (by omega) (by omega) (by omega)
                      · have _q := h246
                        refine jx_hp (pc_q := 58) (st_q := [.long (38), .ref 66]) rfl rfl rfl rfl rfl rfl ?_
                        refine jx_ld (pc_q := 59) (l_q := L) (st_q := [.ref 66, .long (38), .ref 66]) rfl (jl_aloadn gL_0) ?_
                        refine jr_get (pc_q := 62) (i := 14) (v := .long (i64 (Gx 14))) rfl rfl (by decide) rfl rfl ?_
                        obtain ⟨y254, ey254⟩ : ∃ q : Int64, q = i64 (Gx 14) := ⟨_, rfl⟩
                        rw [← ey254]
                        refine jx_ar (pc_q := 63) (st_q := .long ((38 : Int64) * (y254)) :: [.ref 66]) rfl rfl rfl rfl ?_
                        obtain ⟨y255, ey255⟩ : ∃ q : Int64, q = (38 : Int64) * (y254) := ⟨_, rfl⟩
                        rw [← ey255]
                        refine jx_ld (pc_q := 64) (l_q := L) (st_q := [.ref 66, .long (y255), .ref 66]) rfl (jl_aloadn gL_0) ?_
                        refine jx_ld (pc_q := 65) (l_q := L) (st_q := [.ref 66, .ref 66, .long (y255), .ref 66]) rfl (jl_aloadn gL_0) ?_
                        refine jr_get (pc_q := 68) (i := 10) (v := .int (i32 (at1))) rfl rfl (by decide) (rFv_eq (by decide) (show Gx 10 = at1 from (ex_at1))) rfl ?_
                        refine jx_vr (pc_q := 71) (as := [.int (i32 (at1))]) (st := [.long (y255), .ref 66]) rfl rfl rfl rfl ⟨rfl, rfl, Nat.le_of_ble_eq_true rfl⟩ rfl rfl (c_sign (dd := d) (hd := by omega) (hW := hWx) (k := at1) (ln := ln) (e_ln := show Gx 9 = ln from ((hFx.1 9 rfl).trans (e_ln))) (le := le) (e_le := show Ax 4 (ln).toNat = le from (congrFun (hFx.2 4 rfl) _).trans (e_le)) (tx := cur) (e_tx := show Ax 0 (at1).toNat = cur from (ex_cur))  (h_k := ⟨(Int.le_trans (by decide : (-2147483648 : Int) ≤ 0) b_at1.1), (Int.le_trans b_at1.2 (by decide : (3002 : Int) ≤ 2147483647))⟩)  (p_0 := by omega)) (fun o V_q hq => ?_)
                        obtain ⟨r256, rfl, rfl, b257, q258⟩ := hq
                        refine .inr ⟨_, rfl, ?_⟩
                        rcases q258 with ⟨a259, a260⟩ | ⟨a261, a262⟩
                        · have _q : True := trivial
                          refine jx_st (pc_q := 74) (as := [.int (i32 (r256))]) (st := [.long (y255), .ref 66]) rfl rfl ⟨rfl, Nat.le_of_ble_eq_true rfl⟩ rfl rfl rfl (c_digit (dd := d) (hd := by omega) (c := r256)   (h_c := ⟨(Int.le_trans (by decide : (-2147483648 : Int) ≤ -2147483648) b257.1), (Int.le_trans b257.2 (by decide : (2147483647 : Int) ≤ 2147483647))⟩)  ) (fun o V_q hq => ?_)
                          obtain ⟨r263, rfl, rfl, -⟩ := hq
                          refine .inr ⟨_, rfl, ?_⟩
                          refine jx_ar (pc_q := 75) (st_q := .long ((y255 : Int64) + (r263)) :: [.ref 66]) rfl rfl rfl rfl ?_
                          obtain ⟨y265, ey265⟩ : ∃ q : Int64, q = (y255 : Int64) + (r263) := ⟨_, rfl⟩
                          rw [← ey265]
                          refine jx_go (tg := 82) rfl rfl ?_
                          have rl266 := i64_rg (y265)
                          refine jr_put (pc_q := 85) (i := 14) (z := (y265 : Int64).toInt) rfl rfl (by decide) rfl rfl rfl rfl (congrArg Value.long (i64_of (y265))) rfl ?_
                          have hW267 : Wk (uG Gx 14 ((y265 : Int64).toInt)) Ax := Wk_g hWx (show (-9223372036854775808 : Int) ≤ (y265 : Int64).toInt by omega) (show (y265 : Int64).toInt ≤ (9223372036854775807 : Int) by omega)
                          have hF268 := Fr_g (z := (y265 : Int64).toInt) (i := 14) hFx (by decide)
                          refine jx_inc (pc_q := 88) (l_q := jSto1 L 1 (.int (i32 ((n + (1)))))) (x := n) rfl gL_1 (by decide) rfl rfl ?_
                          obtain ⟨L269, eL269⟩ : ∃ q, q = jSto1 L 1 (.int (i32 ((n + (1))))) := ⟨_, rfl⟩
                          rw [← eL269]
                          have gL269_0 : jGet L269 0 = some (.ref 66) := eL269 ▸ jg_ne (by decide) gL_0 rfl
                          have gL269_1 : jGet L269 1 = some (.int (i32 ((n + (1))))) := eL269 ▸ jg_eq
                          refine jx_ld (pc_q := 89) (l_q := L269) (st_q := [.ref 66]) rfl (jl_aloadn gL269_0) ?_
                          refine jx_ar (pc_q := 90) (st_q := [.ref 66, .ref 66]) rfl rfl rfl rfl ?_
                          refine jr_get (pc_q := 93) (i := 10) (v := .int (i32 (at1))) rfl rfl (by decide) (rFv_eq (by decide) (show (uG Gx 14 ((y265 : Int64).toInt)) 10 = at1 from (ex_at1))) rfl ?_
                          refine jx_ar (pc_q := 94) (st_q := [.int (i32 (1)), .int (i32 (at1)), .ref 66]) rfl rfl rfl rfl ?_
                          refine jx_add (pc_q := 95) rfl rfl ?_
                          refine jr_put (pc_q := 98) (i := 10) (z := (at1 + 1)) rfl rfl (by decide) rfl rfl rfl rfl rfl rfl ?_
                          have hW270 : Wk (uG (uG Gx 14 ((y265 : Int64).toInt)) 10 ((at1 + 1))) Ax := Wk_g hW267 (show (0 : Int) ≤ (at1 + 1) by omega) (show (at1 + 1) ≤ (3002 : Int) by omega)
                          have hF271 := Fr_g (z := (at1 + 1)) (i := 10) hF268 (by decide)
                          refine jx_go (tg := 7) rfl rfl ?_
                          exact ih7 _ (by omega) L269 (uG (uG Gx 14 ((y265 : Int64).toInt)) 10 ((at1 + 1))) Ax ((n + (1))) ((at1 + 1)) (A 0 ((at1 + 1)).toNat) rfl gL269_0 gL269_1 hW270 hF271 (rfl) ((congrFun (hFx.2 0 rfl) _)) (by omega) (by omega) (by omega) (by omega)
                        · have _q : True := trivial
                          refine jx_st (pc_q := 74) (as := [.int (i32 (r256))]) (st := [.long (y255), .ref 66]) rfl rfl ⟨rfl, Nat.le_of_ble_eq_true rfl⟩ rfl rfl rfl (c_digit (dd := d) (hd := by omega) (c := r256)   (h_c := ⟨(Int.le_trans (by decide : (-2147483648 : Int) ≤ -2147483648) b257.1), (Int.le_trans b257.2 (by decide : (2147483647 : Int) ≤ 2147483647))⟩)  ) (fun o V_q hq => ?_)
                          obtain ⟨r272, rfl, rfl, -⟩ := hq
                          refine .inr ⟨_, rfl, ?_⟩
                          refine jx_ar (pc_q := 75) (st_q := .long ((y255 : Int64) + (r272)) :: [.ref 66]) rfl rfl rfl rfl ?_
                          obtain ⟨y274, ey274⟩ : ∃ q : Int64, q = (y255 : Int64) + (r272) := ⟨_, rfl⟩
                          rw [← ey274]
                          refine jx_go (tg := 82) rfl rfl ?_
                          have rl275 := i64_rg (y274)
                          refine jr_put (pc_q := 85) (i := 14) (z := (y274 : Int64).toInt) rfl rfl (by decide) rfl rfl rfl rfl (congrArg Value.long (i64_of (y274))) rfl ?_
                          have hW276 : Wk (uG Gx 14 ((y274 : Int64).toInt)) Ax := Wk_g hWx (show (-9223372036854775808 : Int) ≤ (y274 : Int64).toInt by omega) (show (y274 : Int64).toInt ≤ (9223372036854775807 : Int) by omega)
                          have hF277 := Fr_g (z := (y274 : Int64).toInt) (i := 14) hFx (by decide)
                          refine jx_inc (pc_q := 88) (l_q := jSto1 L 1 (.int (i32 ((n + (1)))))) (x := n) rfl gL_1 (by decide) rfl rfl ?_
                          obtain ⟨L278, eL278⟩ : ∃ q, q = jSto1 L 1 (.int (i32 ((n + (1))))) := ⟨_, rfl⟩
                          rw [← eL278]
                          have gL278_0 : jGet L278 0 = some (.ref 66) := eL278 ▸ jg_ne (by decide) gL_0 rfl
                          have gL278_1 : jGet L278 1 = some (.int (i32 ((n + (1))))) := eL278 ▸ jg_eq
                          refine jx_ld (pc_q := 89) (l_q := L278) (st_q := [.ref 66]) rfl (jl_aloadn gL278_0) ?_
                          refine jx_ar (pc_q := 90) (st_q := [.ref 66, .ref 66]) rfl rfl rfl rfl ?_
                          refine jr_get (pc_q := 93) (i := 10) (v := .int (i32 (at1))) rfl rfl (by decide) (rFv_eq (by decide) (show (uG Gx 14 ((y274 : Int64).toInt)) 10 = at1 from (ex_at1))) rfl ?_
                          refine jx_ar (pc_q := 94) (st_q := [.int (i32 (1)), .int (i32 (at1)), .ref 66]) rfl rfl rfl rfl ?_
                          refine jx_add (pc_q := 95) rfl rfl ?_
                          refine jr_put (pc_q := 98) (i := 10) (z := (at1 + 1)) rfl rfl (by decide) rfl rfl rfl rfl rfl rfl ?_
                          have hW279 : Wk (uG (uG Gx 14 ((y274 : Int64).toInt)) 10 ((at1 + 1))) Ax := Wk_g hW276 (show (0 : Int) ≤ (at1 + 1) by omega) (show (at1 + 1) ≤ (3002 : Int) by omega)
                          have hF280 := Fr_g (z := (at1 + 1)) (i := 10) hF277 (by decide)
                          refine jx_go (tg := 7) rfl rfl ?_
                          exact ih7 _ (by omega) L278 (uG (uG Gx 14 ((y274 : Int64).toInt)) 10 ((at1 + 1))) Ax ((n + (1))) ((at1 + 1)) (A 0 ((at1 + 1)).toNat) rfl gL278_0 gL278_1 hW279 hF280 (rfl) ((congrFun (hFx.2 0 rfl) _)) (by omega) (by omega) (by omega) (by omega)
                  · have _q : True := trivial
                    refine jx_ar (pc_q := 45) (st_q := [.int (i32 (46)), .int (i32 (r233))]) rfl rfl rfl rfl ?_
                    refine jx_icmp_ne (pc_q := 48) (tg := 101) rfl rfl rfl (Int.le_trans (by decide : (-2147483648 : Int) ≤ -2147483648) b234.1) (Int.le_trans b234.2 (by decide : (2147483647 : Int) ≤ 2147483647)) (by decide) (by decide) (fun h281 => ?_) (fun h281 => ?_)
                    · have _q := h281
                      refine jx_ld (pc_q := 102) (l_q := L) (st_q := [.ref 66]) rfl (jl_aloadn gL_0) ?_
                      refine jx_ld (pc_q := 103) (l_q := L) (st_q := [.int (i32 (n)), .ref 66]) rfl (jl_iloadn gL_1) ?_
                      refine jx_ar (pc_q := 105) (st_q := [.int (i32 (10)), .int (i32 (n)), .ref 66]) rfl rfl rfl rfl ?_
                      refine jx_icmp_le (pc_q := 108) (tg := 112) rfl rfl rfl (Int.le_trans (by decide : (-2147483648 : Int) ≤ -2147483648) rx_n.1) (Int.le_trans rx_n.2 (by decide : (2147483647 : Int) ≤ 2147483647)) (by decide) (by decide) (fun h282 => ?_) (fun h282 => ?_)
                      · have _q := h282
                        refine jx_ar (pc_q := 113) (st_q := [.int (i32 (1)), .ref 66]) rfl rfl rfl rfl ?_
                        refine jr_put (pc_q := 116) (i := 11) (z := 1) rfl rfl (by decide) rfl rfl rfl rfl rfl rfl ?_
                        have hW283 : Wk (uG Gx 11 (1)) Ax := Wk_g hWx (show (0 : Int) ≤ 1 by omega) (show 1 ≤ (5 : Int) by omega)
                        have hF284 := Fr_g (z := 1) (i := 11) hFx (by decide)
                        refine jx_rt (v := none) rfl rfl rfl rfl rfl rfl ?_
                        exact ⟨_, _, at1, 1, rfl, rfl, hW283, hF284, (ex_at1), rfl, by omega, by omega, by omega, trivial⟩
                      · have _q := h282
                        refine jx_ar (pc_q := 109) (st_q := [.int (i32 (5)), .ref 66]) rfl rfl rfl rfl ?_
                        refine jx_go (tg := 113) rfl rfl ?_
                        refine jr_put (pc_q := 116) (i := 11) (z := 5) rfl rfl (by decide) rfl rfl rfl rfl rfl rfl ?_
                        have hW285 : Wk (uG Gx 11 (5)) Ax := Wk_g hWx (show (0 : Int) ≤ 5 by omega) (show 5 ≤ (5 : Int) by omega)
                        have hF286 := Fr_g (z := 5) (i := 11) hFx (by decide)
                        refine jx_rt (v := none) rfl rfl rfl rfl rfl rfl ?_
                        exact ⟨_, _, at1, 5, rfl, rfl, hW285, hF286, (ex_at1), rfl, by omega, by omega, by omega, trivial⟩
                    · have _q := h281
                      refine jx_ld (pc_q := 49) (l_q := L) (st_q := [.ref 66]) rfl (jl_aloadn gL_0) ?_
                      refine jx_ld (pc_q := 50) (l_q := L) (st_q := [.int (i32 (n)), .ref 66]) rfl (jl_iloadn gL_1) ?_
                      refine jx_ar (pc_q := 52) (st_q := [.int (i32 (10)), .int (i32 (n)), .ref 66]) rfl rfl rfl rfl ?_
                      refine jx_icmp_ge (pc_q := 55) (tg := 78) rfl rfl rfl (Int.le_trans (by decide : (-2147483648 : Int) ≤ -2147483648) rx_n.1) (Int.le_trans rx_n.2 (by decide : (2147483647 : Int) ≤ 2147483647)) (by decide) (by decide) (fun h287 => ?_) (fun h287 => ?_)
                      · have _q := h287
                        refine jx_ld (pc_q := 79) (l_q := L) (st_q := [.ref 66, .ref 66]) rfl (jl_aloadn gL_0) ?_
                        refine jr_get (pc_q := 82) (i := 14) (v := .long (i64 (Gx 14))) rfl rfl (by decide) rfl rfl ?_
                        obtain ⟨y288, ey288⟩ : ∃ q : Int64, q = i64 (Gx 14) := ⟨_, rfl⟩
                        rw [← ey288]
                        have rl289 := i64_rg (y288)
                        refine jr_put (pc_q := 85) (i := 14) (z := (y288 : Int64).toInt) rfl rfl (by decide) rfl rfl rfl rfl (congrArg Value.long (i64_of (y288))) rfl ?_
                        have hW290 : Wk (uG Gx 14 ((y288 : Int64).toInt)) Ax := Wk_g hWx (show (-9223372036854775808 : Int) ≤ (y288 : Int64).toInt by omega) (show (y288 : Int64).toInt ≤ (9223372036854775807 : Int) by omega)
                        have hF291 := Fr_g (z := (y288 : Int64).toInt) (i := 14) hFx (by decide)
                        refine jx_inc (pc_q := 88) (l_q := jSto1 L 1 (.int (i32 ((n + (1)))))) (x := n) rfl gL_1 (by decide) rfl rfl ?_
                        obtain ⟨L292, eL292⟩ : ∃ q, q = jSto1 L 1 (.int (i32 ((n + (1))))) := ⟨_, rfl⟩
                        rw [← eL292]
                        have gL292_0 : jGet L292 0 = some (.ref 66) := eL292 ▸ jg_ne (by decide) gL_0 rfl
                        have gL292_1 : jGet L292 1 = some (.int (i32 ((n + (1))))) := eL292 ▸ jg_eq
                        refine jx_ld (pc_q := 89) (l_q := L292) (st_q := [.ref 66]) rfl (jl_aloadn gL292_0) ?_
                        refine jx_ar (pc_q := 90) (st_q := [.ref 66, .ref 66]) rfl rfl rfl rfl ?_
                        refine jr_get (pc_q := 93) (i := 10) (v := .int (i32 (at1))) rfl rfl (by decide) (rFv_eq (by decide) (show (uG Gx 14 ((y288 : Int64).toInt)) 10 = at1 from (ex_at1))) rfl ?_
                        refine jx_ar (pc_q := 94) (st_q := [.int (i32 (1)), .int (i32 (at1)), .ref 66]) rfl rfl rfl rfl ?_
                        refine jx_add (pc_q := 95) rfl rfl ?_
                        refine jr_put (pc_q := 98) (i := 10) (z := (at1 + 1)) rfl rfl (by decide) rfl rfl rfl rfl rfl rfl ?_
                        have hW293 : Wk (uG (uG Gx 14 ((y288 : Int64).toInt)) 10 ((at1 + 1))) Ax := Wk_g hW290 (show (0 : Int) ≤ (at1 + 1) by omega) (show (at1 + 1) ≤ (3002 : Int) by omega)
                        have hF294 := Fr_g (z := (at1 + 1)) (i := 10) hF291 (by decide)
                        refine jx_go (tg := 7) rfl rfl ?_
                        exact ih7 _ (by omega) L292 (uG (uG Gx 14 ((y288 : Int64).toInt)) 10 ((at1 + 1))) Ax ((n + (1))) ((at1 + 1)) (A 0 ((at1 + 1)).toNat) rfl gL292_0 gL292_1 hW293 hF294 (rfl) ((congrFun (hFx.2 0 rfl) _)) (by omega) (by omega) (by omega) (by omega)
                      · have _q := h287
                        refine jx_hp (pc_q := 58) (st_q := [.long (38), .ref 66]) rfl rfl rfl rfl rfl rfl ?_
                        refine jx_ld (pc_q := 59) (l_q := L) (st_q := [.ref 66, .long (38), .ref 66]) rfl (jl_aloadn gL_0) ?_
                        refine jr_get (pc_q := 62) (i := 14) (v := .long (i64 (Gx 14))) rfl rfl (by decide) rfl rfl ?_
                        obtain ⟨y295, ey295⟩ : ∃ q : Int64, q = i64 (Gx 14) := ⟨_, rfl⟩
                        rw [← ey295]
                        refine jx_ar (pc_q := 63) (st_q := .long ((38 : Int64) * (y295)) :: [.ref 66]) rfl rfl rfl rfl ?_
                        obtain ⟨y296, ey296⟩ : ∃ q : Int64, q = (38 : Int64) * (y295) := ⟨_, rfl⟩
                        rw [← ey296]
                        refine jx_ld (pc_q := 64) (l_q := L) (st_q := [.ref 66, .long (y296), .ref 66]) rfl (jl_aloadn gL_0) ?_
                        refine jx_ld (pc_q := 65) (l_q := L) (st_q := [.ref 66, .ref 66, .long (y296), .ref 66]) rfl (jl_aloadn gL_0) ?_
                        refine jr_get (pc_q := 68) (i := 10) (v := .int (i32 (at1))) rfl rfl (by decide) (rFv_eq (by decide) (show Gx 10 = at1 from (ex_at1))) rfl ?_
                        refine jx_vr (pc_q := 71) (as := [.int (i32 (at1))]) (st := [.long (y296), .ref 66]) rfl rfl rfl rfl ⟨rfl, rfl, Nat.le_of_ble_eq_true rfl⟩ rfl rfl (c_sign (dd := d) (hd := by omega) (hW := hWx) (k := at1) (ln := ln) (e_ln := show Gx 9 = ln from ((hFx.1 9 rfl).trans (e_ln))) (le := le) (e_le := show Ax 4 (ln).toNat = le from (congrFun (hFx.2 4 rfl) _).trans (e_le)) (tx := cur) (e_tx := show Ax 0 (at1).toNat = cur from (ex_cur))  (h_k := ⟨(Int.le_trans (by decide : (-2147483648 : Int) ≤ 0) b_at1.1), (Int.le_trans b_at1.2 (by decide : (3002 : Int) ≤ 2147483647))⟩)  (p_0 := by omega)) (fun o V_q hq => ?_)
                        obtain ⟨r297, rfl, rfl, b298, q299⟩ := hq
                        refine .inr ⟨_, rfl, ?_⟩
                        rcases q299 with ⟨a300, a301⟩ | ⟨a302, a303⟩
                        · have _q : True := trivial
                          refine jx_st (pc_q := 74) (as := [.int (i32 (r297))]) (st := [.long (y296), .ref 66]) rfl rfl ⟨rfl, Nat.le_of_ble_eq_true rfl⟩ rfl rfl rfl (c_digit (dd := d) (hd := by omega) (c := r297)   (h_c := ⟨(Int.le_trans (by decide : (-2147483648 : Int) ≤ -2147483648) b298.1), (Int.le_trans b298.2 (by decide : (2147483647 : Int) ≤ 2147483647))⟩)  ) (fun o V_q hq => ?_)
                          obtain ⟨r304, rfl, rfl, -⟩ := hq
                          refine .inr ⟨_, rfl, ?_⟩
                          refine jx_ar (pc_q := 75) (st_q := .long ((y296 : Int64) + (r304)) :: [.ref 66]) rfl rfl rfl rfl ?_
                          obtain ⟨y306, ey306⟩ : ∃ q : Int64, q = (y296 : Int64) + (r304) := ⟨_, rfl⟩
                          rw [← ey306]
                          refine jx_go (tg := 82) rfl rfl ?_
                          have rl307 := i64_rg (y306)
                          refine jr_put (pc_q := 85) (i := 14) (z := (y306 : Int64).toInt) rfl rfl (by decide) rfl rfl rfl rfl (congrArg Value.long (i64_of (y306))) rfl ?_
                          have hW308 : Wk (uG Gx 14 ((y306 : Int64).toInt)) Ax := Wk_g hWx (show (-9223372036854775808 : Int) ≤ (y306 : Int64).toInt by omega) (show (y306 : Int64).toInt ≤ (9223372036854775807 : Int) by omega)
                          have hF309 := Fr_g (z := (y306 : Int64).toInt) (i := 14) hFx (by decide)
                          refine jx_inc (pc_q := 88) (l_q := jSto1 L 1 (.int (i32 ((n + (1)))))) (x := n) rfl gL_1 (by decide) rfl rfl ?_
                          obtain ⟨L310, eL310⟩ : ∃ q, q = jSto1 L 1 (.int (i32 ((n + (1))))) := ⟨_, rfl⟩
                          rw [← eL310]
                          have gL310_0 : jGet L310 0 = some (.ref 66) := eL310 ▸ jg_ne (by decide) gL_0 rfl
                          have gL310_1 : jGet L310 1 = some (.int (i32 ((n + (1))))) := eL310 ▸ jg_eq
                          refine jx_ld (pc_q := 89) (l_q := L310) (st_q := [.ref 66]) rfl (jl_aloadn gL310_0) ?_
                          refine jx_ar (pc_q := 90) (st_q := [.ref 66, .ref 66]) rfl rfl rfl rfl ?_
                          refine jr_get (pc_q := 93) (i := 10) (v := .int (i32 (at1))) rfl rfl (by decide) (rFv_eq (by decide) (show (uG Gx 14 ((y306 : Int64).toInt)) 10 = at1 from (ex_at1))) rfl ?_
                          refine jx_ar (pc_q := 94) (st_q := [.int (i32 (1)), .int (i32 (at1)), .ref 66]) rfl rfl rfl rfl ?_
                          refine jx_add (pc_q := 95) rfl rfl ?_
                          refine jr_put (pc_q := 98) (i := 10) (z := (at1 + 1)) rfl rfl (by decide) rfl rfl rfl rfl rfl rfl ?_
                          have hW311 : Wk (uG (uG Gx 14 ((y306 : Int64).toInt)) 10 ((at1 + 1))) Ax := Wk_g hW308 (show (0 : Int) ≤ (at1 + 1) by omega) (show (at1 + 1) ≤ (3002 : Int) by omega)
                          have hF312 := Fr_g (z := (at1 + 1)) (i := 10) hF309 (by decide)
                          refine jx_go (tg := 7) rfl rfl ?_
                          exact ih7 _ (by omega) L310 (uG (uG Gx 14 ((y306 : Int64).toInt)) 10 ((at1 + 1))) Ax ((n + (1))) ((at1 + 1)) (A 0 ((at1 + 1)).toNat) rfl gL310_0 gL310_1 hW311 hF312 (rfl) ((congrFun (hFx.2 0 rfl) _)) (by omega) (by omega) (by omega) (by omega)
                        · have _q : True := trivial
                          refine jx_st (pc_q := 74) (as := [.int (i32 (r297))]) (st := [.long (y296), .ref 66]) rfl rfl ⟨rfl, Nat.le_of_ble_eq_true rfl⟩ rfl rfl rfl (c_digit (dd := d) (hd := by omega) (c := r297)   (h_c := ⟨(Int.le_trans (by decide : (-2147483648 : Int) ≤ -2147483648) b298.1), (Int.le_trans b298.2 (by decide : (2147483647 : Int) ≤ 2147483647))⟩)  ) (fun o V_q hq => ?_)
                          obtain ⟨r313, rfl, rfl, -⟩ := hq
                          refine .inr ⟨_, rfl, ?_⟩
                          refine jx_ar (pc_q := 75) (st_q := .long ((y296 : Int64) + (r313)) :: [.ref 66]) rfl rfl rfl rfl ?_
                          obtain ⟨y315, ey315⟩ : ∃ q : Int64, q = (y296 : Int64) + (r313) := ⟨_, rfl⟩
                          rw [← ey315]
                          refine jx_go (tg := 82) rfl rfl ?_
                          have rl316 := i64_rg (y315)
                          refine jr_put (pc_q := 85) (i := 14) (z := (y315 : Int64).toInt) rfl rfl (by decide) rfl rfl rfl rfl (congrArg Value.long (i64_of (y315))) rfl ?_
                          have hW317 : Wk (uG Gx 14 ((y315 : Int64).toInt)) Ax := Wk_g hWx (show (-9223372036854775808 : Int) ≤ (y315 : Int64).toInt by omega) (show (y315 : Int64).toInt ≤ (9223372036854775807 : Int) by omega)
                          have hF318 := Fr_g (z := (y315 : Int64).toInt) (i := 14) hFx (by decide)
                          refine jx_inc (pc_q := 88) (l_q := jSto1 L 1 (.int (i32 ((n + (1)))))) (x := n) rfl gL_1 (by decide) rfl rfl ?_
                          obtain ⟨L319, eL319⟩ : ∃ q, q = jSto1 L 1 (.int (i32 ((n + (1))))) := ⟨_, rfl⟩
                          rw [← eL319]
                          have gL319_0 : jGet L319 0 = some (.ref 66) := eL319 ▸ jg_ne (by decide) gL_0 rfl
                          have gL319_1 : jGet L319 1 = some (.int (i32 ((n + (1))))) := eL319 ▸ jg_eq
                          refine jx_ld (pc_q := 89) (l_q := L319) (st_q := [.ref 66]) rfl (jl_aloadn gL319_0) ?_
                          refine jx_ar (pc_q := 90) (st_q := [.ref 66, .ref 66]) rfl rfl rfl rfl ?_
                          refine jr_get (pc_q := 93) (i := 10) (v := .int (i32 (at1))) rfl rfl (by decide) (rFv_eq (by decide) (show (uG Gx 14 ((y315 : Int64).toInt)) 10 = at1 from (ex_at1))) rfl ?_
                          refine jx_ar (pc_q := 94) (st_q := [.int (i32 (1)), .int (i32 (at1)), .ref 66]) rfl rfl rfl rfl ?_
                          refine jx_add (pc_q := 95) rfl rfl ?_
                          refine jr_put (pc_q := 98) (i := 10) (z := (at1 + 1)) rfl rfl (by decide) rfl rfl rfl rfl rfl rfl ?_
                          have hW320 : Wk (uG (uG Gx 14 ((y315 : Int64).toInt)) 10 ((at1 + 1))) Ax := Wk_g hW317 (show (0 : Int) ≤ (at1 + 1) by omega) (show (at1 + 1) ≤ (3002 : Int) by omega)
                          have hF321 := Fr_g (z := (at1 + 1)) (i := 10) hF318 (by decide)
                          refine jx_go (tg := 7) rfl rfl ?_
                          exact ih7 _ (by omega) L319 (uG (uG Gx 14 ((y315 : Int64).toInt)) 10 ((at1 + 1))) Ax ((n + (1))) ((at1 + 1)) (A 0 ((at1 + 1)).toNat) rfl gL319_0 gL319_1 hW320 hF321 (rfl) ((congrFun (hFx.2 0 rfl) _)) (by omega) (by omega) (by omega) (by omega)
      · have _q : True := trivial
        refine jx_st (pc_q := 18) (as := [.int (i32 (r1))]) (st := []) rfl rfl ⟨rfl, Nat.le_of_ble_eq_true rfl⟩ rfl rfl rfl (c_isSmall (dd := d) (hd := by omega) (v := r1)   (h_v := ⟨(Int.le_trans (by decide : (-2147483648 : Int) ≤ -2147483648) b2.1), (Int.le_trans b2.2 (by decide : (2147483647 : Int) ≤ 2147483647))⟩)  ) (fun o V_q hq => ?_)
        obtain ⟨r322, rfl, rfl, b323, q324⟩ := hq
        refine .inr ⟨_, rfl, ?_⟩
        rcases q324 with ⟨rfl, a325, a326⟩ | ⟨rfl, a327⟩
        · have _q : True := trivial
          refine jx_if_ne (pc_q := 21) (tg := 48) rfl rfl rfl (by decide) (by decide) (fun h328 => ?_) (fun h328 => ?_)
          · have _q := h328
            refine jx_ld (pc_q := 49) (l_q := L) (st_q := [.ref 66]) rfl (jl_aloadn gL_0) ?_
            refine jx_ld (pc_q := 50) (l_q := L) (st_q := [.int (i32 (n)), .ref 66]) rfl (jl_iloadn gL_1) ?_
            refine jx_ar (pc_q := 52) (st_q := [.int (i32 (10)), .int (i32 (n)), .ref 66]) rfl rfl rfl rfl ?_
            refine jx_icmp_ge (pc_q := 55) (tg := 78) rfl rfl rfl (Int.le_trans (by decide : (-2147483648 : Int) ≤ -2147483648) rx_n.1) (Int.le_trans rx_n.2 (by decide : (2147483647 : Int) ≤ 2147483647)) (by decide) (by decide) (fun h329 => ?_) (fun h329 => ?_)
            · have _q := h329
              refine jx_ld (pc_q := 79) (l_q := L) (st_q := [.ref 66, .ref 66]) rfl (jl_aloadn gL_0) ?_
              refine jr_get (pc_q := 82) (i := 14) (v := .long (i64 (Gx 14))) rfl rfl (by decide) rfl rfl ?_
              obtain ⟨y330, ey330⟩ : ∃ q : Int64, q = i64 (Gx 14) := ⟨_, rfl⟩
              rw [← ey330]
              have rl331 := i64_rg (y330)
              refine jr_put (pc_q := 85) (i := 14) (z := (y330 : Int64).toInt) rfl rfl (by decide) rfl rfl rfl rfl (congrArg Value.long (i64_of (y330))) rfl ?_
              have hW332 : Wk (uG Gx 14 ((y330 : Int64).toInt)) Ax := Wk_g hWx (show (-9223372036854775808 : Int) ≤ (y330 : Int64).toInt by omega) (show (y330 : Int64).toInt ≤ (9223372036854775807 : Int) by omega)
              have hF333 := Fr_g (z := (y330 : Int64).toInt) (i := 14) hFx (by decide)
              refine jx_inc (pc_q := 88) (l_q := jSto1 L 1 (.int (i32 ((n + (1)))))) (x := n) rfl gL_1 (by decide) rfl rfl ?_
              obtain ⟨L334, eL334⟩ : ∃ q, q = jSto1 L 1 (.int (i32 ((n + (1))))) := ⟨_, rfl⟩
              rw [← eL334]
              have gL334_0 : jGet L334 0 = some (.ref 66) := eL334 ▸ jg_ne (by decide) gL_0 rfl
              have gL334_1 : jGet L334 1 = some (.int (i32 ((n + (1))))) := eL334 ▸ jg_eq
              refine jx_ld (pc_q := 89) (l_q := L334) (st_q := [.ref 66]) rfl (jl_aloadn gL334_0) ?_
              refine jx_ar (pc_q := 90) (st_q := [.ref 66, .ref 66]) rfl rfl rfl rfl ?_
              refine jr_get (pc_q := 93) (i := 10) (v := .int (i32 (at1))) rfl rfl (by decide) (rFv_eq (by decide) (show (uG Gx 14 ((y330 : Int64).toInt)) 10 = at1 from (ex_at1))) rfl ?_
              refine jx_ar (pc_q := 94) (st_q := [.int (i32 (1)), .int (i32 (at1)), .ref 66]) rfl rfl rfl rfl ?_
              refine jx_add (pc_q := 95) rfl rfl ?_
              refine jr_put (pc_q := 98) (i := 10) (z := (at1 + 1)) rfl rfl (by decide) rfl rfl rfl rfl rfl rfl ?_
              have hW335 : Wk (uG (uG Gx 14 ((y330 : Int64).toInt)) 10 ((at1 + 1))) Ax := Wk_g hW332 (show (0 : Int) ≤ (at1 + 1) by omega) (show (at1 + 1) ≤ (3002 : Int) by omega)
              have hF336 := Fr_g (z := (at1 + 1)) (i := 10) hF333 (by decide)
              refine jx_go (tg := 7) rfl rfl ?_
              exact ih7 _ (by omega) L334 (uG (uG Gx 14 ((y330 : Int64).toInt)) 10 ((at1 + 1))) Ax ((n + (1))) ((at1 + 1)) (A 0 ((at1 + 1)).toNat) rfl gL334_0 gL334_1 hW335 hF336 (rfl) ((congrFun (hFx.2 0 rfl) _)) (by omega) (by omega) (by omega) (by omega)
            · have _q := h329
              refine jx_hp (pc_q := 58) (st_q := [.long (38), .ref 66]) rfl rfl rfl rfl rfl rfl ?_
              refine jx_ld (pc_q := 59) (l_q := L) (st_q := [.ref 66, .long (38), .ref 66]) rfl (jl_aloadn gL_0) ?_
              refine jr_get (pc_q := 62) (i := 14) (v := .long (i64 (Gx 14))) rfl rfl (by decide) rfl rfl ?_
              obtain ⟨y337, ey337⟩ : ∃ q : Int64, q = i64 (Gx 14) := ⟨_, rfl⟩
              rw [← ey337]
              refine jx_ar (pc_q := 63) (st_q := .long ((38 : Int64) * (y337)) :: [.ref 66]) rfl rfl rfl rfl ?_
              obtain ⟨y338, ey338⟩ : ∃ q : Int64, q = (38 : Int64) * (y337) := ⟨_, rfl⟩
              rw [← ey338]
              refine jx_ld (pc_q := 64) (l_q := L) (st_q := [.ref 66, .long (y338), .ref 66]) rfl (jl_aloadn gL_0) ?_
              refine jx_ld (pc_q := 65) (l_q := L) (st_q := [.ref 66, .ref 66, .long (y338), .ref 66]) rfl (jl_aloadn gL_0) ?_
              refine jr_get (pc_q := 68) (i := 10) (v := .int (i32 (at1))) rfl rfl (by decide) (rFv_eq (by decide) (show Gx 10 = at1 from (ex_at1))) rfl ?_
              refine jx_vr (pc_q := 71) (as := [.int (i32 (at1))]) (st := [.long (y338), .ref 66]) rfl rfl rfl rfl ⟨rfl, rfl, Nat.le_of_ble_eq_true rfl⟩ rfl rfl (c_sign (dd := d) (hd := by omega) (hW := hWx) (k := at1) (ln := ln) (e_ln := show Gx 9 = ln from ((hFx.1 9 rfl).trans (e_ln))) (le := le) (e_le := show Ax 4 (ln).toNat = le from (congrFun (hFx.2 4 rfl) _).trans (e_le)) (tx := cur) (e_tx := show Ax 0 (at1).toNat = cur from (ex_cur))  (h_k := ⟨(Int.le_trans (by decide : (-2147483648 : Int) ≤ 0) b_at1.1), (Int.le_trans b_at1.2 (by decide : (3002 : Int) ≤ 2147483647))⟩)  (p_0 := by omega)) (fun o V_q hq => ?_)
              obtain ⟨r339, rfl, rfl, b340, q341⟩ := hq
              refine .inr ⟨_, rfl, ?_⟩
              rcases q341 with ⟨a342, a343⟩ | ⟨a344, a345⟩
              · have _q : True := trivial
                refine jx_st (pc_q := 74) (as := [.int (i32 (r339))]) (st := [.long (y338), .ref 66]) rfl rfl ⟨rfl, Nat.le_of_ble_eq_true rfl⟩ rfl rfl rfl (c_digit (dd := d) (hd := by omega) (c := r339)   (h_c := ⟨(Int.le_trans (by decide : (-2147483648 : Int) ≤ -2147483648) b340.1), (Int.le_trans b340.2 (by decide : (2147483647 : Int) ≤ 2147483647))⟩)  ) (fun o V_q hq => ?_)
                obtain ⟨r346, rfl, rfl, -⟩ := hq
                refine .inr ⟨_, rfl, ?_⟩
                refine jx_ar (pc_q := 75) (st_q := .long ((y338 : Int64) + (r346)) :: [.ref 66]) rfl rfl rfl rfl ?_
                obtain ⟨y348, ey348⟩ : ∃ q : Int64, q = (y338 : Int64) + (r346) := ⟨_, rfl⟩
                rw [← ey348]
                refine jx_go (tg := 82) rfl rfl ?_
                have rl349 := i64_rg (y348)
                refine jr_put (pc_q := 85) (i := 14) (z := (y348 : Int64).toInt) rfl rfl (by decide) rfl rfl rfl rfl (congrArg Value.long (i64_of (y348))) rfl ?_
                have hW350 : Wk (uG Gx 14 ((y348 : Int64).toInt)) Ax := Wk_g hWx (show (-9223372036854775808 : Int) ≤ (y348 : Int64).toInt by omega) (show (y348 : Int64).toInt ≤ (9223372036854775807 : Int) by omega)
                have hF351 := Fr_g (z := (y348 : Int64).toInt) (i := 14) hFx (by decide)
                refine jx_inc (pc_q := 88) (l_q := jSto1 L 1 (.int (i32 ((n + (1)))))) (x := n) rfl gL_1 (by decide) rfl rfl ?_
                obtain ⟨L352, eL352⟩ : ∃ q, q = jSto1 L 1 (.int (i32 ((n + (1))))) := ⟨_, rfl⟩
                rw [← eL352]
                have gL352_0 : jGet L352 0 = some (.ref 66) := eL352 ▸ jg_ne (by decide) gL_0 rfl
                have gL352_1 : jGet L352 1 = some (.int (i32 ((n + (1))))) := eL352 ▸ jg_eq
                refine jx_ld (pc_q := 89) (l_q := L352) (st_q := [.ref 66]) rfl (jl_aloadn gL352_0) ?_
                refine jx_ar (pc_q := 90) (st_q := [.ref 66, .ref 66]) rfl rfl rfl rfl ?_
                refine jr_get (pc_q := 93) (i := 10) (v := .int (i32 (at1))) rfl rfl (by decide) (rFv_eq (by decide) (show (uG Gx 14 ((y348 : Int64).toInt)) 10 = at1 from (ex_at1))) rfl ?_
                refine jx_ar (pc_q := 94) (st_q := [.int (i32 (1)), .int (i32 (at1)), .ref 66]) rfl rfl rfl rfl ?_
                refine jx_add (pc_q := 95) rfl rfl ?_
                refine jr_put (pc_q := 98) (i := 10) (z := (at1 + 1)) rfl rfl (by decide) rfl rfl rfl rfl rfl rfl ?_
                have hW353 : Wk (uG (uG Gx 14 ((y348 : Int64).toInt)) 10 ((at1 + 1))) Ax := Wk_g hW350 (show (0 : Int) ≤ (at1 + 1) by omega) (show (at1 + 1) ≤ (3002 : Int) by omega)
                have hF354 := Fr_g (z := (at1 + 1)) (i := 10) hF351 (by decide)
                refine jx_go (tg := 7) rfl rfl ?_
                exact ih7 _ (by omega) L352 (uG (uG Gx 14 ((y348 : Int64).toInt)) 10 ((at1 + 1))) Ax ((n + (1))) ((at1 + 1)) (A 0 ((at1 + 1)).toNat) rfl gL352_0 gL352_1 hW353 hF354 (rfl) ((congrFun (hFx.2 0 rfl) _)) (by omega) (by omega) (by omega) (by omega)
              · have _q : True := trivial
                refine jx_st (pc_q := 74) (as := [.int (i32 (r339))]) (st := [.long (y338), .ref 66]) rfl rfl ⟨rfl, Nat.le_of_ble_eq_true rfl⟩ rfl rfl rfl (c_digit (dd := d) (hd := by omega) (c := r339)   (h_c := ⟨(Int.le_trans (by decide : (-2147483648 : Int) ≤ -2147483648) b340.1), (Int.le_trans b340.2 (by decide : (2147483647 : Int) ≤ 2147483647))⟩)  ) (fun o V_q hq => ?_)
                obtain ⟨r355, rfl, rfl, -⟩ := hq
                refine .inr ⟨_, rfl, ?_⟩
                refine jx_ar (pc_q := 75) (st_q := .long ((y338 : Int64) + (r355)) :: [.ref 66]) rfl rfl rfl rfl ?_
                obtain ⟨y357, ey357⟩ : ∃ q : Int64, q = (y338 : Int64) + (r355) := ⟨_, rfl⟩
                rw [← ey357]
                refine jx_go (tg := 82) rfl rfl ?_
                have rl358 := i64_rg (y357)
                refine jr_put (pc_q := 85) (i := 14) (z := (y357 : Int64).toInt) rfl rfl (by decide) rfl rfl rfl rfl (congrArg Value.long (i64_of (y357))) rfl ?_
                have hW359 : Wk (uG Gx 14 ((y357 : Int64).toInt)) Ax := Wk_g hWx (show (-9223372036854775808 : Int) ≤ (y357 : Int64).toInt by omega) (show (y357 : Int64).toInt ≤ (9223372036854775807 : Int) by omega)
                have hF360 := Fr_g (z := (y357 : Int64).toInt) (i := 14) hFx (by decide)
                refine jx_inc (pc_q := 88) (l_q := jSto1 L 1 (.int (i32 ((n + (1)))))) (x := n) rfl gL_1 (by decide) rfl rfl ?_
                obtain ⟨L361, eL361⟩ : ∃ q, q = jSto1 L 1 (.int (i32 ((n + (1))))) := ⟨_, rfl⟩
                rw [← eL361]
                have gL361_0 : jGet L361 0 = some (.ref 66) := eL361 ▸ jg_ne (by decide) gL_0 rfl
                have gL361_1 : jGet L361 1 = some (.int (i32 ((n + (1))))) := eL361 ▸ jg_eq
                refine jx_ld (pc_q := 89) (l_q := L361) (st_q := [.ref 66]) rfl (jl_aloadn gL361_0) ?_
                refine jx_ar (pc_q := 90) (st_q := [.ref 66, .ref 66]) rfl rfl rfl rfl ?_
                refine jr_get (pc_q := 93) (i := 10) (v := .int (i32 (at1))) rfl rfl (by decide) (rFv_eq (by decide) (show (uG Gx 14 ((y357 : Int64).toInt)) 10 = at1 from (ex_at1))) rfl ?_
                refine jx_ar (pc_q := 94) (st_q := [.int (i32 (1)), .int (i32 (at1)), .ref 66]) rfl rfl rfl rfl ?_
                refine jx_add (pc_q := 95) rfl rfl ?_
                refine jr_put (pc_q := 98) (i := 10) (z := (at1 + 1)) rfl rfl (by decide) rfl rfl rfl rfl rfl rfl ?_
                have hW362 : Wk (uG (uG Gx 14 ((y357 : Int64).toInt)) 10 ((at1 + 1))) Ax := Wk_g hW359 (show (0 : Int) ≤ (at1 + 1) by omega) (show (at1 + 1) ≤ (3002 : Int) by omega)
                have hF363 := Fr_g (z := (at1 + 1)) (i := 10) hF360 (by decide)
                refine jx_go (tg := 7) rfl rfl ?_
                exact ih7 _ (by omega) L361 (uG (uG Gx 14 ((y357 : Int64).toInt)) 10 ((at1 + 1))) Ax ((n + (1))) ((at1 + 1)) (A 0 ((at1 + 1)).toNat) rfl gL361_0 gL361_1 hW362 hF363 (rfl) ((congrFun (hFx.2 0 rfl) _)) (by omega) (by omega) (by omega) (by omega)
          · have _q := h328
            exact absurd h328 (by omega)
        · have _q : True := trivial
          refine jx_if_ne (pc_q := 21) (tg := 48) rfl rfl rfl (by decide) (by decide) (fun h364 => ?_) (fun h364 => ?_)
          · have _q := h364
            exact absurd h364 (by omega)
          · have _q := h364
            refine jx_ld (pc_q := 22) (l_q := L) (st_q := [.ref 66]) rfl (jl_aloadn gL_0) ?_
            refine jx_ld (pc_q := 23) (l_q := L) (st_q := [.ref 66, .ref 66]) rfl (jl_aloadn gL_0) ?_
            refine jr_get (pc_q := 26) (i := 10) (v := .int (i32 (at1))) rfl rfl (by decide) (rFv_eq (by decide) (show Gx 10 = at1 from (ex_at1))) rfl ?_
            refine jx_vr (pc_q := 29) (as := [.int (i32 (at1))]) (st := []) rfl rfl rfl rfl ⟨rfl, rfl, Nat.le_of_ble_eq_true rfl⟩ rfl rfl (c_sign (dd := d) (hd := by omega) (hW := hWx) (k := at1) (ln := ln) (e_ln := show Gx 9 = ln from ((hFx.1 9 rfl).trans (e_ln))) (le := le) (e_le := show Ax 4 (ln).toNat = le from (congrFun (hFx.2 4 rfl) _).trans (e_le)) (tx := cur) (e_tx := show Ax 0 (at1).toNat = cur from (ex_cur))  (h_k := ⟨(Int.le_trans (by decide : (-2147483648 : Int) ≤ 0) b_at1.1), (Int.le_trans b_at1.2 (by decide : (3002 : Int) ≤ 2147483647))⟩)  (p_0 := by omega)) (fun o V_q hq => ?_)
            obtain ⟨r365, rfl, rfl, b366, q367⟩ := hq
            refine .inr ⟨_, rfl, ?_⟩
            rcases q367 with ⟨a368, a369⟩ | ⟨a370, a371⟩
            · have _q : True := trivial
              refine jx_st (pc_q := 32) (as := [.int (i32 (r365))]) (st := []) rfl rfl ⟨rfl, Nat.le_of_ble_eq_true rfl⟩ rfl rfl rfl (c_isDigit (dd := d) (hd := by omega) (v := r365)   (h_v := ⟨(Int.le_trans (by decide : (-2147483648 : Int) ≤ -2147483648) b366.1), (Int.le_trans b366.2 (by decide : (2147483647 : Int) ≤ 2147483647))⟩)  ) (fun o V_q hq => ?_)
              obtain ⟨r372, rfl, rfl, b373, q374⟩ := hq
              refine .inr ⟨_, rfl, ?_⟩
              rcases q374 with ⟨rfl, a375, a376⟩ | ⟨rfl, a377⟩
              · have _q : True := trivial
                refine jx_if_ne (pc_q := 35) (tg := 48) rfl rfl rfl (by decide) (by decide) (fun h378 => ?_) (fun h378 => ?_)
                · have _q := h378
                  refine jx_ld (pc_q := 49) (l_q := L) (st_q := [.ref 66]) rfl (jl_aloadn gL_0) ?_
                  refine jx_ld (pc_q := 50) (l_q := L) (st_q := [.int (i32 (n)), .ref 66]) rfl (jl_iloadn gL_1) ?_
                  refine jx_ar (pc_q := 52) (st_q := [.int (i32 (10)), .int (i32 (n)), .ref 66]) rfl rfl rfl rfl ?_
                  refine jx_icmp_ge (pc_q := 55) (tg := 78) rfl rfl rfl (Int.le_trans (by decide : (-2147483648 : Int) ≤ -2147483648) rx_n.1) (Int.le_trans rx_n.2 (by decide : (2147483647 : Int) ≤ 2147483647)) (by decide) (by decide) (fun h379 => ?_) (fun h379 => ?_)
                  · have _q := h379
                    refine jx_ld (pc_q := 79) (l_q := L) (st_q := [.ref 66, .ref 66]) rfl (jl_aloadn gL_0) ?_
                    refine jr_get (pc_q := 82) (i := 14) (v := .long (i64 (Gx 14))) rfl rfl (by decide) rfl rfl ?_
                    obtain ⟨y380, ey380⟩ : ∃ q : Int64, q = i64 (Gx 14) := ⟨_, rfl⟩
                    rw [← ey380]
                    have rl381 := i64_rg (y380)
                    refine jr_put (pc_q := 85) (i := 14) (z := (y380 : Int64).toInt) rfl rfl (by decide) rfl rfl rfl rfl (congrArg Value.long (i64_of (y380))) rfl ?_
                    have hW382 : Wk (uG Gx 14 ((y380 : Int64).toInt)) Ax := Wk_g hWx (show (-9223372036854775808 : Int) ≤ (y380 : Int64).toInt by omega) (show (y380 : Int64).toInt ≤ (9223372036854775807 : Int) by omega)
                    have hF383 := Fr_g (z := (y380 : Int64).toInt) (i := 14) hFx (by decide)
                    refine jx_inc (pc_q := 88) (l_q := jSto1 L 1 (.int (i32 ((n + (1)))))) (x := n) rfl gL_1 (by decide) rfl rfl ?_
                    obtain ⟨L384, eL384⟩ : ∃ q, q = jSto1 L 1 (.int (i32 ((n + (1))))) := ⟨_, rfl⟩
                    rw [← eL384]
                    have gL384_0 : jGet L384 0 = some (.ref 66) := eL384 ▸ jg_ne (by decide) gL_0 rfl
                    have gL384_1 : jGet L384 1 = some (.int (i32 ((n + (1))))) := eL384 ▸ jg_eq
                    refine jx_ld (pc_q := 89) (l_q := L384) (st_q := [.ref 66]) rfl (jl_aloadn gL384_0) ?_
                    refine jx_ar (pc_q := 90) (st_q := [.ref 66, .ref 66]) rfl rfl rfl rfl ?_
                    refine jr_get (pc_q := 93) (i := 10) (v := .int (i32 (at1))) rfl rfl (by decide) (rFv_eq (by decide) (show (uG Gx 14 ((y380 : Int64).toInt)) 10 = at1 from (ex_at1))) rfl ?_
                    refine jx_ar (pc_q := 94) (st_q := [.int (i32 (1)), .int (i32 (at1)), .ref 66]) rfl rfl rfl rfl ?_
                    refine jx_add (pc_q := 95) rfl rfl ?_
                    refine jr_put (pc_q := 98) (i := 10) (z := (at1 + 1)) rfl rfl (by decide) rfl rfl rfl rfl rfl rfl ?_
                    have hW385 : Wk (uG (uG Gx 14 ((y380 : Int64).toInt)) 10 ((at1 + 1))) Ax := Wk_g hW382 (show (0 : Int) ≤ (at1 + 1) by omega) (show (at1 + 1) ≤ (3002 : Int) by omega)
                    have hF386 := Fr_g (z := (at1 + 1)) (i := 10) hF383 (by decide)
                    refine jx_go (tg := 7) rfl rfl ?_
                    exact ih7 _ (by omega) L384 (uG (uG Gx 14 ((y380 : Int64).toInt)) 10 ((at1 + 1))) Ax ((n + (1))) ((at1 + 1)) (A 0 ((at1 + 1)).toNat) rfl gL384_0 gL384_1 hW385 hF386 (rfl) ((congrFun (hFx.2 0 rfl) _)) (by omega) (by omega) (by omega) (by omega)
                  · have _q := h379
                    refine jx_hp (pc_q := 58) (st_q := [.long (38), .ref 66]) rfl rfl rfl rfl rfl rfl ?_
                    refine jx_ld (pc_q := 59) (l_q := L) (st_q := [.ref 66, .long (38), .ref 66]) rfl (jl_aloadn gL_0) ?_
                    refine jr_get (pc_q := 62) (i := 14) (v := .long (i64 (Gx 14))) rfl rfl (by decide) rfl rfl ?_
                    obtain ⟨y387, ey387⟩ : ∃ q : Int64, q = i64 (Gx 14) := ⟨_, rfl⟩
                    rw [← ey387]
                    refine jx_ar (pc_q := 63) (st_q := .long ((38 : Int64) * (y387)) :: [.ref 66]) rfl rfl rfl rfl ?_
                    obtain ⟨y388, ey388⟩ : ∃ q : Int64, q = (38 : Int64) * (y387) := ⟨_, rfl⟩
                    rw [← ey388]
                    refine jx_ld (pc_q := 64) (l_q := L) (st_q := [.ref 66, .long (y388), .ref 66]) rfl (jl_aloadn gL_0) ?_
                    refine jx_ld (pc_q := 65) (l_q := L) (st_q := [.ref 66, .ref 66, .long (y388), .ref 66]) rfl (jl_aloadn gL_0) ?_
                    refine jr_get (pc_q := 68) (i := 10) (v := .int (i32 (at1))) rfl rfl (by decide) (rFv_eq (by decide) (show Gx 10 = at1 from (ex_at1))) rfl ?_
                    refine jx_vr (pc_q := 71) (as := [.int (i32 (at1))]) (st := [.long (y388), .ref 66]) rfl rfl rfl rfl ⟨rfl, rfl, Nat.le_of_ble_eq_true rfl⟩ rfl rfl (c_sign (dd := d) (hd := by omega) (hW := hWx) (k := at1) (ln := ln) (e_ln := show Gx 9 = ln from ((hFx.1 9 rfl).trans (e_ln))) (le := le) (e_le := show Ax 4 (ln).toNat = le from (congrFun (hFx.2 4 rfl) _).trans (e_le)) (tx := cur) (e_tx := show Ax 0 (at1).toNat = cur from (ex_cur))  (h_k := ⟨(Int.le_trans (by decide : (-2147483648 : Int) ≤ 0) b_at1.1), (Int.le_trans b_at1.2 (by decide : (3002 : Int) ≤ 2147483647))⟩)  (p_0 := by omega)) (fun o V_q hq => ?_)
                    obtain ⟨r389, rfl, rfl, b390, q391⟩ := hq
                    refine .inr ⟨_, rfl, ?_⟩
                    rcases q391 with ⟨a392, a393⟩ | ⟨a394, a395⟩
                    · have _q : True := trivial
                      refine jx_st (pc_q := 74) (as := [.int (i32 (r389))]) (st := [.long (y388), .ref 66]) rfl rfl ⟨rfl, Nat.le_of_ble_eq_true rfl⟩ rfl rfl rfl (c_digit (dd := d) (hd := by omega) (c := r389)   (h_c := ⟨(Int.le_trans (by decide : (-2147483648 : Int) ≤ -2147483648) b390.1), (Int.le_trans b390.2 (by decide : (2147483647 : Int) ≤ 2147483647))⟩)  ) (fun o V_q hq => ?_)
                      obtain ⟨r396, rfl, rfl, -⟩ := hq
                      refine .inr ⟨_, rfl, ?_⟩
                      refine jx_ar (pc_q := 75) (st_q := .long ((y388 : Int64) + (r396)) :: [.ref 66]) rfl rfl rfl rfl ?_
                      obtain ⟨y398, ey398⟩ : ∃ q : Int64, q = (y388 : Int64) + (r396) := ⟨_, rfl⟩
                      rw [← ey398]
                      refine jx_go (tg := 82) rfl rfl ?_
                      have rl399 := i64_rg (y398)
                      refine jr_put (pc_q := 85) (i := 14) (z := (y398 : Int64).toInt) rfl rfl (by decide) rfl rfl rfl rfl (congrArg Value.long (i64_of (y398))) rfl ?_
                      have hW400 : Wk (uG Gx 14 ((y398 : Int64).toInt)) Ax := Wk_g hWx (show (-9223372036854775808 : Int) ≤ (y398 : Int64).toInt by omega) (show (y398 : Int64).toInt ≤ (9223372036854775807 : Int) by omega)
                      have hF401 := Fr_g (z := (y398 : Int64).toInt) (i := 14) hFx (by decide)
                      refine jx_inc (pc_q := 88) (l_q := jSto1 L 1 (.int (i32 ((n + (1)))))) (x := n) rfl gL_1 (by decide) rfl rfl ?_
                      obtain ⟨L402, eL402⟩ : ∃ q, q = jSto1 L 1 (.int (i32 ((n + (1))))) := ⟨_, rfl⟩
                      rw [← eL402]
                      have gL402_0 : jGet L402 0 = some (.ref 66) := eL402 ▸ jg_ne (by decide) gL_0 rfl
                      have gL402_1 : jGet L402 1 = some (.int (i32 ((n + (1))))) := eL402 ▸ jg_eq
                      refine jx_ld (pc_q := 89) (l_q := L402) (st_q := [.ref 66]) rfl (jl_aloadn gL402_0) ?_
                      refine jx_ar (pc_q := 90) (st_q := [.ref 66, .ref 66]) rfl rfl rfl rfl ?_
                      refine jr_get (pc_q := 93) (i := 10) (v := .int (i32 (at1))) rfl rfl (by decide) (rFv_eq (by decide) (show (uG Gx 14 ((y398 : Int64).toInt)) 10 = at1 from (ex_at1))) rfl ?_
                      refine jx_ar (pc_q := 94) (st_q := [.int (i32 (1)), .int (i32 (at1)), .ref 66]) rfl rfl rfl rfl ?_
                      refine jx_add (pc_q := 95) rfl rfl ?_
                      refine jr_put (pc_q := 98) (i := 10) (z := (at1 + 1)) rfl rfl (by decide) rfl rfl rfl rfl rfl rfl ?_
                      have hW403 : Wk (uG (uG Gx 14 ((y398 : Int64).toInt)) 10 ((at1 + 1))) Ax := Wk_g hW400 (show (0 : Int) ≤ (at1 + 1) by omega) (show (at1 + 1) ≤ (3002 : Int) by omega)
                      have hF404 := Fr_g (z := (at1 + 1)) (i := 10) hF401 (by decide)
                      refine jx_go (tg := 7) rfl rfl ?_
                      exact ih7 _ (by omega) L402 (uG (uG Gx 14 ((y398 : Int64).toInt)) 10 ((at1 + 1))) Ax ((n + (1))) ((at1 + 1)) (A 0 ((at1 + 1)).toNat) rfl gL402_0 gL402_1 hW403 hF404 (rfl) ((congrFun (hFx.2 0 rfl) _)) (by omega) (by omega) (by omega) (by omega)
                    · have _q : True := trivial
                      refine jx_st (pc_q := 74) (as := [.int (i32 (r389))]) (st := [.long (y388), .ref 66]) rfl rfl ⟨rfl, Nat.le_of_ble_eq_true rfl⟩ rfl rfl rfl (c_digit (dd := d) (hd := by omega) (c := r389)   (h_c := ⟨(Int.le_trans (by decide : (-2147483648 : Int) ≤ -2147483648) b390.1), (Int.le_trans b390.2 (by decide : (2147483647 : Int) ≤ 2147483647))⟩)  ) (fun o V_q hq => ?_)
                      obtain ⟨r405, rfl, rfl, -⟩ := hq
                      refine .inr ⟨_, rfl, ?_⟩
                      refine jx_ar (pc_q := 75) (st_q := .long ((y388 : Int64) + (r405)) :: [.ref 66]) rfl rfl rfl rfl ?_
                      obtain ⟨y407, ey407⟩ : ∃ q : Int64, q = (y388 : Int64) + (r405) := ⟨_, rfl⟩
                      rw [← ey407]
                      refine jx_go (tg := 82) rfl rfl ?_
                      have rl408 := i64_rg (y407)
                      refine jr_put (pc_q := 85) (i := 14) (z := (y407 : Int64).toInt) rfl rfl (by decide) rfl rfl rfl rfl (congrArg Value.long (i64_of (y407))) rfl ?_
                      have hW409 : Wk (uG Gx 14 ((y407 : Int64).toInt)) Ax := Wk_g hWx (show (-9223372036854775808 : Int) ≤ (y407 : Int64).toInt by omega) (show (y407 : Int64).toInt ≤ (9223372036854775807 : Int) by omega)
                      have hF410 := Fr_g (z := (y407 : Int64).toInt) (i := 14) hFx (by decide)
                      refine jx_inc (pc_q := 88) (l_q := jSto1 L 1 (.int (i32 ((n + (1)))))) (x := n) rfl gL_1 (by decide) rfl rfl ?_
                      obtain ⟨L411, eL411⟩ : ∃ q, q = jSto1 L 1 (.int (i32 ((n + (1))))) := ⟨_, rfl⟩
                      rw [← eL411]
                      have gL411_0 : jGet L411 0 = some (.ref 66) := eL411 ▸ jg_ne (by decide) gL_0 rfl
                      have gL411_1 : jGet L411 1 = some (.int (i32 ((n + (1))))) := eL411 ▸ jg_eq
                      refine jx_ld (pc_q := 89) (l_q := L411) (st_q := [.ref 66]) rfl (jl_aloadn gL411_0) ?_
                      refine jx_ar (pc_q := 90) (st_q := [.ref 66, .ref 66]) rfl rfl rfl rfl ?_
                      refine jr_get (pc_q := 93) (i := 10) (v := .int (i32 (at1))) rfl rfl (by decide) (rFv_eq (by decide) (show (uG Gx 14 ((y407 : Int64).toInt)) 10 = at1 from (ex_at1))) rfl ?_
                      refine jx_ar (pc_q := 94) (st_q := [.int (i32 (1)), .int (i32 (at1)), .ref 66]) rfl rfl rfl rfl ?_
                      refine jx_add (pc_q := 95) rfl rfl ?_
                      refine jr_put (pc_q := 98) (i := 10) (z := (at1 + 1)) rfl rfl (by decide) rfl rfl rfl rfl rfl rfl ?_
                      have hW412 : Wk (uG (uG Gx 14 ((y407 : Int64).toInt)) 10 ((at1 + 1))) Ax := Wk_g hW409 (show (0 : Int) ≤ (at1 + 1) by omega) (show (at1 + 1) ≤ (3002 : Int) by omega)
                      have hF413 := Fr_g (z := (at1 + 1)) (i := 10) hF410 (by decide)
                      refine jx_go (tg := 7) rfl rfl ?_
                      exact ih7 _ (by omega) L411 (uG (uG Gx 14 ((y407 : Int64).toInt)) 10 ((at1 + 1))) Ax ((n + (1))) ((at1 + 1)) (A 0 ((at1 + 1)).toNat) rfl gL411_0 gL411_1 hW412 hF413 (rfl) ((congrFun (hFx.2 0 rfl) _)) (by omega) (by omega) (by omega) (by omega)
                · have _q := h378
                  exact absurd h378 (by omega)
              · have _q : True := trivial
                refine jx_if_ne (pc_q := 35) (tg := 48) rfl rfl rfl (by decide) (by decide) (fun h414 => ?_) (fun h414 => ?_)
                · have _q := h414
                  exact absurd h414 (by omega)
                · have _q := h414
                  refine jx_ld (pc_q := 36) (l_q := L) (st_q := [.ref 66]) rfl (jl_aloadn gL_0) ?_
                  refine jx_ld (pc_q := 37) (l_q := L) (st_q := [.ref 66, .ref 66]) rfl (jl_aloadn gL_0) ?_
                  refine jr_get (pc_q := 40) (i := 10) (v := .int (i32 (at1))) rfl rfl (by decide) (rFv_eq (by decide) (show Gx 10 = at1 from (ex_at1))) rfl ?_
                  refine jx_vr (pc_q := 43) (as := [.int (i32 (at1))]) (st := []) rfl rfl rfl rfl ⟨rfl, rfl, Nat.le_of_ble_eq_true rfl⟩ rfl rfl (c_sign (dd := d) (hd := by omega) (hW := hWx) (k := at1) (ln := ln) (e_ln := show Gx 9 = ln from ((hFx.1 9 rfl).trans (e_ln))) (le := le) (e_le := show Ax 4 (ln).toNat = le from (congrFun (hFx.2 4 rfl) _).trans (e_le)) (tx := cur) (e_tx := show Ax 0 (at1).toNat = cur from (ex_cur))  (h_k := ⟨(Int.le_trans (by decide : (-2147483648 : Int) ≤ 0) b_at1.1), (Int.le_trans b_at1.2 (by decide : (3002 : Int) ≤ 2147483647))⟩)  (p_0 := by omega)) (fun o V_q hq => ?_)
                  obtain ⟨r415, rfl, rfl, b416, q417⟩ := hq
                  refine .inr ⟨_, rfl, ?_⟩
                  rcases q417 with ⟨a418, a419⟩ | ⟨a420, a421⟩
                  · have _q : True := trivial
                    refine jx_ar (pc_q := 45) (st_q := [.int (i32 (46)), .int (i32 (r415))]) rfl rfl rfl rfl ?_
                    refine jx_icmp_ne (pc_q := 48) (tg := 101) rfl rfl rfl (Int.le_trans (by decide : (-2147483648 : Int) ≤ -2147483648) b416.1) (Int.le_trans b416.2 (by decide : (2147483647 : Int) ≤ 2147483647)) (by decide) (by decide) (fun h422 => ?_) (fun h422 => ?_)
                    · have _q := h422
                      refine jx_ld (pc_q := 102) (l_q := L) (st_q := [.ref 66]) rfl (jl_aloadn gL_0) ?_
                      refine jx_ld (pc_q := 103) (l_q := L) (st_q := [.int (i32 (n)), .ref 66]) rfl (jl_iloadn gL_1) ?_
                      refine jx_ar (pc_q := 105) (st_q := [.int (i32 (10)), .int (i32 (n)), .ref 66]) rfl rfl rfl rfl ?_
                      refine jx_icmp_le (pc_q := 108) (tg := 112) rfl rfl rfl (Int.le_trans (by decide : (-2147483648 : Int) ≤ -2147483648) rx_n.1) (Int.le_trans rx_n.2 (by decide : (2147483647 : Int) ≤ 2147483647)) (by decide) (by decide) (fun h423 => ?_) (fun h423 => ?_)
                      · have _q := h423
                        refine jx_ar (pc_q := 113) (st_q := [.int (i32 (1)), .ref 66]) rfl rfl rfl rfl ?_
                        refine jr_put (pc_q := 116) (i := 11) (z := 1) rfl rfl (by decide) rfl rfl rfl rfl rfl rfl ?_
                        have hW424 : Wk (uG Gx 11 (1)) Ax := Wk_g hWx (show (0 : Int) ≤ 1 by omega) (show 1 ≤ (5 : Int) by omega)
                        have hF425 := Fr_g (z := 1) (i := 11) hFx (by decide)
                        refine jx_rt (v := none) rfl rfl rfl rfl rfl rfl ?_
                        exact ⟨_, _, at1, 1, rfl, rfl, hW424, hF425, (ex_at1), rfl, by omega, by omega, by omega, trivial⟩
                      · have _q := h423
                        refine jx_ar (pc_q := 109) (st_q := [.int (i32 (5)), .ref 66]) rfl rfl rfl rfl ?_
                        refine jx_go (tg := 113) rfl rfl ?_
                        refine jr_put (pc_q := 116) (i := 11) (z := 5) rfl rfl (by decide) rfl rfl rfl rfl rfl rfl ?_
                        have hW426 : Wk (uG Gx 11 (5)) Ax := Wk_g hWx (show (0 : Int) ≤ 5 by omega) (show 5 ≤ (5 : Int) by omega)
                        have hF427 := Fr_g (z := 5) (i := 11) hFx (by decide)
                        refine jx_rt (v := none) rfl rfl rfl rfl rfl rfl ?_
                        exact ⟨_, _, at1, 5, rfl, rfl, hW426, hF427, (ex_at1), rfl, by omega, by omega, by omega, trivial⟩
                    · have _q := h422
                      refine jx_ld (pc_q := 49) (l_q := L) (st_q := [.ref 66]) rfl (jl_aloadn gL_0) ?_
                      refine jx_ld (pc_q := 50) (l_q := L) (st_q := [.int (i32 (n)), .ref 66]) rfl (jl_iloadn gL_1) ?_
                      refine jx_ar (pc_q := 52) (st_q := [.int (i32 (10)), .int (i32 (n)), .ref 66]) rfl rfl rfl rfl ?_
                      refine jx_icmp_ge (pc_q := 55) (tg := 78) rfl rfl rfl (Int.le_trans (by decide : (-2147483648 : Int) ≤ -2147483648) rx_n.1) (Int.le_trans rx_n.2 (by decide : (2147483647 : Int) ≤ 2147483647)) (by decide) (by decide) (fun h428 => ?_) (fun h428 => ?_)
                      · have _q := h428
                        refine jx_ld (pc_q := 79) (l_q := L) (st_q := [.ref 66, .ref 66]) rfl (jl_aloadn gL_0) ?_
                        refine jr_get (pc_q := 82) (i := 14) (v := .long (i64 (Gx 14))) rfl rfl (by decide) rfl rfl ?_
                        obtain ⟨y429, ey429⟩ : ∃ q : Int64, q = i64 (Gx 14) := ⟨_, rfl⟩
                        rw [← ey429]
                        have rl430 := i64_rg (y429)
                        refine jr_put (pc_q := 85) (i := 14) (z := (y429 : Int64).toInt) rfl rfl (by decide) rfl rfl rfl rfl (congrArg Value.long (i64_of (y429))) rfl ?_
                        have hW431 : Wk (uG Gx 14 ((y429 : Int64).toInt)) Ax := Wk_g hWx (show (-9223372036854775808 : Int) ≤ (y429 : Int64).toInt by omega) (show (y429 : Int64).toInt ≤ (9223372036854775807 : Int) by omega)
                        have hF432 := Fr_g (z := (y429 : Int64).toInt) (i := 14) hFx (by decide)
                        refine jx_inc (pc_q := 88) (l_q := jSto1 L 1 (.int (i32 ((n + (1)))))) (x := n) rfl gL_1 (by decide) rfl rfl ?_
                        obtain ⟨L433, eL433⟩ : ∃ q, q = jSto1 L 1 (.int (i32 ((n + (1))))) := ⟨_, rfl⟩
                        rw [← eL433]
                        have gL433_0 : jGet L433 0 = some (.ref 66) := eL433 ▸ jg_ne (by decide) gL_0 rfl
                        have gL433_1 : jGet L433 1 = some (.int (i32 ((n + (1))))) := eL433 ▸ jg_eq
                        refine jx_ld (pc_q := 89) (l_q := L433) (st_q := [.ref 66]) rfl (jl_aloadn gL433_0) ?_
                        refine jx_ar (pc_q := 90) (st_q := [.ref 66, .ref 66]) rfl rfl rfl rfl ?_
                        refine jr_get (pc_q := 93) (i := 10) (v := .int (i32 (at1))) rfl rfl (by decide) (rFv_eq (by decide) (show (uG Gx 14 ((y429 : Int64).toInt)) 10 = at1 from (ex_at1))) rfl ?_
                        refine jx_ar (pc_q := 94) (st_q := [.int (i32 (1)), .int (i32 (at1)), .ref 66]) rfl rfl rfl rfl ?_
                        refine jx_add (pc_q := 95) rfl rfl ?_
                        refine jr_put (pc_q := 98) (i := 10) (z := (at1 + 1)) rfl rfl (by decide) rfl rfl rfl rfl rfl rfl ?_
                        have hW434 : Wk (uG (uG Gx 14 ((y429 : Int64).toInt)) 10 ((at1 + 1))) Ax := Wk_g hW431 (show (0 : Int) ≤ (at1 + 1) by omega) (show (at1 + 1) ≤ (3002 : Int) by omega)
                        have hF435 := Fr_g (z := (at1 + 1)) (i := 10) hF432 (by decide)
                        refine jx_go (tg := 7) rfl rfl ?_
                        exact ih7 _ (by omega) L433 (uG (uG Gx 14 ((y429 : Int64).toInt)) 10 ((at1 + 1))) Ax ((n + (1))) ((at1 + 1)) (A 0 ((at1 + 1)).toNat) rfl gL433_0 gL433_1 hW434 hF435 (rfl) ((congrFun (hFx.2 0 rfl) _)) (by omega) (by omega) (by omega) (by omega)
                      · have _q := h428
                        refine jx_hp (pc_q := 58) (st_q := [.long (38), .ref 66]) rfl rfl rfl rfl rfl rfl ?_
                        refine jx_ld (pc_q := 59) (l_q := L) (st_q := [.ref 66, .long (38), .ref 66]) rfl (jl_aloadn gL_0) ?_
                        refine jr_get (pc_q := 62) (i := 14) (v := .long (i64 (Gx 14))) rfl rfl (by decide) rfl rfl ?_
                        obtain ⟨y436, ey436⟩ : ∃ q : Int64, q = i64 (Gx 14) := ⟨_, rfl⟩
                        rw [← ey436]
                        refine jx_ar (pc_q := 63) (st_q := .long ((38 : Int64) * (y436)) :: [.ref 66]) rfl rfl rfl rfl ?_
                        obtain ⟨y437, ey437⟩ : ∃ q : Int64, q = (38 : Int64) * (y436) := ⟨_, rfl⟩
                        rw [← ey437]
                        refine jx_ld (pc_q := 64) (l_q := L) (st_q := [.ref 66, .long (y437), .ref 66]) rfl (jl_aloadn gL_0) ?_
                        refine jx_ld (pc_q := 65) (l_q := L) (st_q := [.ref 66, .ref 66, .long (y437), .ref 66]) rfl (jl_aloadn gL_0) ?_
                        refine jr_get (pc_q := 68) (i := 10) (v := .int (i32 (at1))) rfl rfl (by decide) (rFv_eq (by decide) (show Gx 10 = at1 from (ex_at1))) rfl ?_
                        refine jx_vr (pc_q := 71) (as := [.int (i32 (at1))]) (st := [.long (y437), .ref 66]) rfl rfl rfl rfl ⟨rfl, rfl, Nat.le_of_ble_eq_true rfl⟩ rfl rfl (c_sign (dd := d) (hd := by omega) (hW := hWx) (k := at1) (ln := ln) (e_ln := show Gx 9 = ln from ((hFx.1 9 rfl).trans (e_ln))) (le := le) (e_le := show Ax 4 (ln).toNat = le from (congrFun (hFx.2 4 rfl) _).trans (e_le)) (tx := cur) (e_tx := show Ax 0 (at1).toNat = cur from (ex_cur))  (h_k := ⟨(Int.le_trans (by decide : (-2147483648 : Int) ≤ 0) b_at1.1), (Int.le_trans b_at1.2 (by decide : (3002 : Int) ≤ 2147483647))⟩)  (p_0 := by omega)) (fun o V_q hq => ?_)
                        obtain ⟨r438, rfl, rfl, b439, q440⟩ := hq
                        refine .inr ⟨_, rfl, ?_⟩
                        rcases q440 with ⟨a441, a442⟩ | ⟨a443, a444⟩
                        · have _q : True := trivial
                          refine jx_st (pc_q := 74) (as := [.int (i32 (r438))]) (st := [.long (y437), .ref 66]) rfl rfl ⟨rfl, Nat.le_of_ble_eq_true rfl⟩ rfl rfl rfl (c_digit (dd := d) (hd := by omega) (c := r438)   (h_c := ⟨(Int.le_trans (by decide : (-2147483648 : Int) ≤ -2147483648) b439.1), (Int.le_trans b439.2 (by decide : (2147483647 : Int) ≤ 2147483647))⟩)  ) (fun o V_q hq => ?_)
                          obtain ⟨r445, rfl, rfl, -⟩ := hq
                          refine .inr ⟨_, rfl, ?_⟩
                          refine jx_ar (pc_q := 75) (st_q := .long ((y437 : Int64) + (r445)) :: [.ref 66]) rfl rfl rfl rfl ?_
                          obtain ⟨y447, ey447⟩ : ∃ q : Int64, q = (y437 : Int64) + (r445) := ⟨_, rfl⟩
                          rw [← ey447]
                          refine jx_go (tg := 82) rfl rfl ?_
                          have rl448 := i64_rg (y447)
                          refine jr_put (pc_q := 85) (i := 14) (z := (y447 : Int64).toInt) rfl rfl (by decide) rfl rfl rfl rfl (congrArg Value.long (i64_of (y447))) rfl ?_
                          have hW449 : Wk (uG Gx 14 ((y447 : Int64).toInt)) Ax := Wk_g hWx (show (-9223372036854775808 : Int) ≤ (y447 : Int64).toInt by omega) (show (y447 : Int64).toInt ≤ (9223372036854775807 : Int) by omega)
                          have hF450 := Fr_g (z := (y447 : Int64).toInt) (i := 14) hFx (by decide)
                          refine jx_inc (pc_q := 88) (l_q := jSto1 L 1 (.int (i32 ((n + (1)))))) (x := n) rfl gL_1 (by decide) rfl rfl ?_
                          obtain ⟨L451, eL451⟩ : ∃ q, q = jSto1 L 1 (.int (i32 ((n + (1))))) := ⟨_, rfl⟩
                          rw [← eL451]
                          have gL451_0 : jGet L451 0 = some (.ref 66) := eL451 ▸ jg_ne (by decide) gL_0 rfl
                          have gL451_1 : jGet L451 1 = some (.int (i32 ((n + (1))))) := eL451 ▸ jg_eq
                          refine jx_ld (pc_q := 89) (l_q := L451) (st_q := [.ref 66]) rfl (jl_aloadn gL451_0) ?_
                          refine jx_ar (pc_q := 90) (st_q := [.ref 66, .ref 66]) rfl rfl rfl rfl ?_
                          refine jr_get (pc_q := 93) (i := 10) (v := .int (i32 (at1))) rfl rfl (by decide) (rFv_eq (by decide) (show (uG Gx 14 ((y447 : Int64).toInt)) 10 = at1 from (ex_at1))) rfl ?_
                          refine jx_ar (pc_q := 94) (st_q := [.int (i32 (1)), .int (i32 (at1)), .ref 66]) rfl rfl rfl rfl ?_
                          refine jx_add (pc_q := 95) rfl rfl ?_
                          refine jr_put (pc_q := 98) (i := 10) (z := (at1 + 1)) rfl rfl (by decide) rfl rfl rfl rfl rfl rfl ?_
                          have hW452 : Wk (uG (uG Gx 14 ((y447 : Int64).toInt)) 10 ((at1 + 1))) Ax := Wk_g hW449 (show (0 : Int) ≤ (at1 + 1) by omega) (show (at1 + 1) ≤ (3002 : Int) by omega)
                          have hF453 := Fr_g (z := (at1 + 1)) (i := 10) hF450 (by decide)
                          refine jx_go (tg := 7) rfl rfl ?_
                          exact ih7 _ (by omega) L451 (uG (uG Gx 14 ((y447 : Int64).toInt)) 10 ((at1 + 1))) Ax ((n + (1))) ((at1 + 1)) (A 0 ((at1 + 1)).toNat) rfl gL451_0 gL451_1 hW452 hF453 (rfl) ((congrFun (hFx.2 0 rfl) _)) (by omega) (by omega) (by omega) (by omega)
                        · have _q : True := trivial
                          refine jx_st (pc_q := 74) (as := [.int (i32 (r438))]) (st := [.long (y437), .ref 66]) rfl rfl ⟨rfl, Nat.le_of_ble_eq_true rfl⟩ rfl rfl rfl (c_digit (dd := d) (hd := by omega) (c := r438)   (h_c := ⟨(Int.le_trans (by decide : (-2147483648 : Int) ≤ -2147483648) b439.1), (Int.le_trans b439.2 (by decide : (2147483647 : Int) ≤ 2147483647))⟩)  ) (fun o V_q hq => ?_)
                          obtain ⟨r454, rfl, rfl, -⟩ := hq
                          refine .inr ⟨_, rfl, ?_⟩
                          refine jx_ar (pc_q := 75) (st_q := .long ((y437 : Int64) + (r454)) :: [.ref 66]) rfl rfl rfl rfl ?_
                          obtain ⟨y456, ey456⟩ : ∃ q : Int64, q = (y437 : Int64) + (r454) := ⟨_, rfl⟩
                          rw [← ey456]
                          refine jx_go (tg := 82) rfl rfl ?_
                          have rl457 := i64_rg (y456)
                          refine jr_put (pc_q := 85) (i := 14) (z := (y456 : Int64).toInt) rfl rfl (by decide) rfl rfl rfl rfl (congrArg Value.long (i64_of (y456))) rfl ?_
                          have hW458 : Wk (uG Gx 14 ((y456 : Int64).toInt)) Ax := Wk_g hWx (show (-9223372036854775808 : Int) ≤ (y456 : Int64).toInt by omega) (show (y456 : Int64).toInt ≤ (9223372036854775807 : Int) by omega)
                          have hF459 := Fr_g (z := (y456 : Int64).toInt) (i := 14) hFx (by decide)
                          refine jx_inc (pc_q := 88) (l_q := jSto1 L 1 (.int (i32 ((n + (1)))))) (x := n) rfl gL_1 (by decide) rfl rfl ?_
                          obtain ⟨L460, eL460⟩ : ∃ q, q = jSto1 L 1 (.int (i32 ((n + (1))))) := ⟨_, rfl⟩
                          rw [← eL460]
                          have gL460_0 : jGet L460 0 = some (.ref 66) := eL460 ▸ jg_ne (by decide) gL_0 rfl
                          have gL460_1 : jGet L460 1 = some (.int (i32 ((n + (1))))) := eL460 ▸ jg_eq
                          refine jx_ld (pc_q := 89) (l_q := L460) (st_q := [.ref 66]) rfl (jl_aloadn gL460_0) ?_
                          refine jx_ar (pc_q := 90) (st_q := [.ref 66, .ref 66]) rfl rfl rfl rfl ?_
                          refine jr_get (pc_q := 93) (i := 10) (v := .int (i32 (at1))) rfl rfl (by decide) (rFv_eq (by decide) (show (uG Gx 14 ((y456 : Int64).toInt)) 10 = at1 from (ex_at1))) rfl ?_
                          refine jx_ar (pc_q := 94) (st_q := [.int (i32 (1)), .int (i32 (at1)), .ref 66]) rfl rfl rfl rfl ?_
                          refine jx_add (pc_q := 95) rfl rfl ?_
                          refine jr_put (pc_q := 98) (i := 10) (z := (at1 + 1)) rfl rfl (by decide) rfl rfl rfl rfl rfl rfl ?_
                          have hW461 : Wk (uG (uG Gx 14 ((y456 : Int64).toInt)) 10 ((at1 + 1))) Ax := Wk_g hW458 (show (0 : Int) ≤ (at1 + 1) by omega) (show (at1 + 1) ≤ (3002 : Int) by omega)
                          have hF462 := Fr_g (z := (at1 + 1)) (i := 10) hF459 (by decide)
                          refine jx_go (tg := 7) rfl rfl ?_
                          exact ih7 _ (by omega) L460 (uG (uG Gx 14 ((y456 : Int64).toInt)) 10 ((at1 + 1))) Ax ((n + (1))) ((at1 + 1)) (A 0 ((at1 + 1)).toNat) rfl gL460_0 gL460_1 hW461 hF462 (rfl) ((congrFun (hFx.2 0 rfl) _)) (by omega) (by omega) (by omega) (by omega)
                  · have _q : True := trivial
                    refine jx_ar (pc_q := 45) (st_q := [.int (i32 (46)), .int (i32 (r415))]) rfl rfl rfl rfl ?_
                    refine jx_icmp_ne (pc_q := 48) (tg := 101) rfl rfl rfl (Int.le_trans (by decide : (-2147483648 : Int) ≤ -2147483648) b416.1) (Int.le_trans b416.2 (by decide : (2147483647 : Int) ≤ 2147483647)) (by decide) (by decide) (fun h463 => ?_) (fun h463 => ?_)
                    · have _q := h463
                      refine jx_ld (pc_q := 102) (l_q := L) (st_q := [.ref 66]) rfl (jl_aloadn gL_0) ?_
                      refine jx_ld (pc_q := 103) (l_q := L) (st_q := [.int (i32 (n)), .ref 66]) rfl (jl_iloadn gL_1) ?_
                      refine jx_ar (pc_q := 105) (st_q := [.int (i32 (10)), .int (i32 (n)), .ref 66]) rfl rfl rfl rfl ?_
                      refine jx_icmp_le (pc_q := 108) (tg := 112) rfl rfl rfl (Int.le_trans (by decide : (-2147483648 : Int) ≤ -2147483648) rx_n.1) (Int.le_trans rx_n.2 (by decide : (2147483647 : Int) ≤ 2147483647)) (by decide) (by decide) (fun h464 => ?_) (fun h464 => ?_)
                      · have _q := h464
                        refine jx_ar (pc_q := 113) (st_q := [.int (i32 (1)), .ref 66]) rfl rfl rfl rfl ?_
                        refine jr_put (pc_q := 116) (i := 11) (z := 1) rfl rfl (by decide) rfl rfl rfl rfl rfl rfl ?_
                        have hW465 : Wk (uG Gx 11 (1)) Ax := Wk_g hWx (show (0 : Int) ≤ 1 by omega) (show 1 ≤ (5 : Int) by omega)
                        have hF466 := Fr_g (z := 1) (i := 11) hFx (by decide)
                        refine jx_rt (v := none) rfl rfl rfl rfl rfl rfl ?_
                        exact ⟨_, _, at1, 1, rfl, rfl, hW465, hF466, (ex_at1), rfl, by omega, by omega, by omega, trivial⟩
                      · have _q := h464
                        refine jx_ar (pc_q := 109) (st_q := [.int (i32 (5)), .ref 66]) rfl rfl rfl rfl ?_
                        refine jx_go (tg := 113) rfl rfl ?_
                        refine jr_put (pc_q := 116) (i := 11) (z := 5) rfl rfl (by decide) rfl rfl rfl rfl rfl rfl ?_
                        have hW467 : Wk (uG Gx 11 (5)) Ax := Wk_g hWx (show (0 : Int) ≤ 5 by omega) (show 5 ≤ (5 : Int) by omega)
                        have hF468 := Fr_g (z := 5) (i := 11) hFx (by decide)
                        refine jx_rt (v := none) rfl rfl rfl rfl rfl rfl ?_
                        exact ⟨_, _, at1, 5, rfl, rfl, hW467, hF468, (ex_at1), rfl, by omega, by omega, by omega, trivial⟩
                    · have _q := h463
                      refine jx_ld (pc_q := 49) (l_q := L) (st_q := [.ref 66]) rfl (jl_aloadn gL_0) ?_
                      refine jx_ld (pc_q := 50) (l_q := L) (st_q := [.int (i32 (n)), .ref 66]) rfl (jl_iloadn gL_1) ?_
                      refine jx_ar (pc_q := 52) (st_q := [.int (i32 (10)), .int (i32 (n)), .ref 66]) rfl rfl rfl rfl ?_
                      refine jx_icmp_ge (pc_q := 55) (tg := 78) rfl rfl rfl (Int.le_trans (by decide : (-2147483648 : Int) ≤ -2147483648) rx_n.1) (Int.le_trans rx_n.2 (by decide : (2147483647 : Int) ≤ 2147483647)) (by decide) (by decide) (fun h469 => ?_) (fun h469 => ?_)
                      · have _q := h469
                        refine jx_ld (pc_q := 79) (l_q := L) (st_q := [.ref 66, .ref 66]) rfl (jl_aloadn gL_0) ?_
                        refine jr_get (pc_q := 82) (i := 14) (v := .long (i64 (Gx 14))) rfl rfl (by decide) rfl rfl ?_
                        obtain ⟨y470, ey470⟩ : ∃ q : Int64, q = i64 (Gx 14) := ⟨_, rfl⟩
                        rw [← ey470]
                        have rl471 := i64_rg (y470)
                        refine jr_put (pc_q := 85) (i := 14) (z := (y470 : Int64).toInt) rfl rfl (by decide) rfl rfl rfl rfl (congrArg Value.long (i64_of (y470))) rfl ?_
                        have hW472 : Wk (uG Gx 14 ((y470 : Int64).toInt)) Ax := Wk_g hWx (show (-9223372036854775808 : Int) ≤ (y470 : Int64).toInt by omega) (show (y470 : Int64).toInt ≤ (9223372036854775807 : Int) by omega)
                        have hF473 := Fr_g (z := (y470 : Int64).toInt) (i := 14) hFx (by decide)
                        refine jx_inc (pc_q := 88) (l_q := jSto1 L 1 (.int (i32 ((n + (1)))))) (x := n) rfl gL_1 (by decide) rfl rfl ?_
                        obtain ⟨L474, eL474⟩ : ∃ q, q = jSto1 L 1 (.int (i32 ((n + (1))))) := ⟨_, rfl⟩
                        rw [← eL474]
                        have gL474_0 : jGet L474 0 = some (.ref 66) := eL474 ▸ jg_ne (by decide) gL_0 rfl
                        have gL474_1 : jGet L474 1 = some (.int (i32 ((n + (1))))) := eL474 ▸ jg_eq
                        refine jx_ld (pc_q := 89) (l_q := L474) (st_q := [.ref 66]) rfl (jl_aloadn gL474_0) ?_
                        refine jx_ar (pc_q := 90) (st_q := [.ref 66, .ref 66]) rfl rfl rfl rfl ?_
                        refine jr_get (pc_q := 93) (i := 10) (v := .int (i32 (at1))) rfl rfl (by decide) (rFv_eq (by decide) (show (uG Gx 14 ((y470 : Int64).toInt)) 10 = at1 from (ex_at1))) rfl ?_
                        refine jx_ar (pc_q := 94) (st_q := [.int (i32 (1)), .int (i32 (at1)), .ref 66]) rfl rfl rfl rfl ?_
                        refine jx_add (pc_q := 95) rfl rfl ?_
                        refine jr_put (pc_q := 98) (i := 10) (z := (at1 + 1)) rfl rfl (by decide) rfl rfl rfl rfl rfl rfl ?_
                        have hW475 : Wk (uG (uG Gx 14 ((y470 : Int64).toInt)) 10 ((at1 + 1))) Ax := Wk_g hW472 (show (0 : Int) ≤ (at1 + 1) by omega) (show (at1 + 1) ≤ (3002 : Int) by omega)
                        have hF476 := Fr_g (z := (at1 + 1)) (i := 10) hF473 (by decide)
                        refine jx_go (tg := 7) rfl rfl ?_
                        exact ih7 _ (by omega) L474 (uG (uG Gx 14 ((y470 : Int64).toInt)) 10 ((at1 + 1))) Ax ((n + (1))) ((at1 + 1)) (A 0 ((at1 + 1)).toNat) rfl gL474_0 gL474_1 hW475 hF476 (rfl) ((congrFun (hFx.2 0 rfl) _)) (by omega) (by omega) (by omega) (by omega)
                      · have _q := h469
                        refine jx_hp (pc_q := 58) (st_q := [.long (38), .ref 66]) rfl rfl rfl rfl rfl rfl ?_
                        refine jx_ld (pc_q := 59) (l_q := L) (st_q := [.ref 66, .long (38), .ref 66]) rfl (jl_aloadn gL_0) ?_
                        refine jr_get (pc_q := 62) (i := 14) (v := .long (i64 (Gx 14))) rfl rfl (by decide) rfl rfl ?_
                        obtain ⟨y477, ey477⟩ : ∃ q : Int64, q = i64 (Gx 14) := ⟨_, rfl⟩
                        rw [← ey477]
                        refine jx_ar (pc_q := 63) (st_q := .long ((38 : Int64) * (y477)) :: [.ref 66]) rfl rfl rfl rfl ?_
                        obtain ⟨y478, ey478⟩ : ∃ q : Int64, q = (38 : Int64) * (y477) := ⟨_, rfl⟩
                        rw [← ey478]
                        refine jx_ld (pc_q := 64) (l_q := L) (st_q := [.ref 66, .long (y478), .ref 66]) rfl (jl_aloadn gL_0) ?_
                        refine jx_ld (pc_q := 65) (l_q := L) (st_q := [.ref 66, .ref 66, .long (y478), .ref 66]) rfl (jl_aloadn gL_0) ?_
                        refine jr_get (pc_q := 68) (i := 10) (v := .int (i32 (at1))) rfl rfl (by decide) (rFv_eq (by decide) (show Gx 10 = at1 from (ex_at1))) rfl ?_
                        refine jx_vr (pc_q := 71) (as := [.int (i32 (at1))]) (st := [.long (y478), .ref 66]) rfl rfl rfl rfl ⟨rfl, rfl, Nat.le_of_ble_eq_true rfl⟩ rfl rfl (c_sign (dd := d) (hd := by omega) (hW := hWx) (k := at1) (ln := ln) (e_ln := show Gx 9 = ln from ((hFx.1 9 rfl).trans (e_ln))) (le := le) (e_le := show Ax 4 (ln).toNat = le from (congrFun (hFx.2 4 rfl) _).trans (e_le)) (tx := cur) (e_tx := show Ax 0 (at1).toNat = cur from (ex_cur))  (h_k := ⟨(Int.le_trans (by decide : (-2147483648 : Int) ≤ 0) b_at1.1), (Int.le_trans b_at1.2 (by decide : (3002 : Int) ≤ 2147483647))⟩)  (p_0 := by omega)) (fun o V_q hq => ?_)
                        obtain ⟨r479, rfl, rfl, b480, q481⟩ := hq
                        refine .inr ⟨_, rfl, ?_⟩
                        rcases q481 with ⟨a482, a483⟩ | ⟨a484, a485⟩
                        · have _q : True := trivial
                          refine jx_st (pc_q := 74) (as := [.int (i32 (r479))]) (st := [.long (y478), .ref 66]) rfl rfl ⟨rfl, Nat.le_of_ble_eq_true rfl⟩ rfl rfl rfl (c_digit (dd := d) (hd := by omega) (c := r479)   (h_c := ⟨(Int.le_trans (by decide : (-2147483648 : Int) ≤ -2147483648) b480.1), (Int.le_trans b480.2 (by decide : (2147483647 : Int) ≤ 2147483647))⟩)  ) (fun o V_q hq => ?_)
                          obtain ⟨r486, rfl, rfl, -⟩ := hq
                          refine .inr ⟨_, rfl, ?_⟩
                          refine jx_ar (pc_q := 75) (st_q := .long ((y478 : Int64) + (r486)) :: [.ref 66]) rfl rfl rfl rfl ?_
                          obtain ⟨y488, ey488⟩ : ∃ q : Int64, q = (y478 : Int64) + (r486) := ⟨_, rfl⟩
                          rw [← ey488]
                          refine jx_go (tg := 82) rfl rfl ?_
                          have rl489 := i64_rg (y488)
                          refine jr_put (pc_q := 85) (i := 14) (z := (y488 : Int64).toInt) rfl rfl (by decide) rfl rfl rfl rfl (congrArg Value.long (i64_of (y488))) rfl ?_
                          have hW490 : Wk (uG Gx 14 ((y488 : Int64).toInt)) Ax := Wk_g hWx (show (-9223372036854775808 : Int) ≤ (y488 : Int64).toInt by omega) (show (y488 : Int64).toInt ≤ (9223372036854775807 : Int) by omega)
                          have hF491 := Fr_g (z := (y488 : Int64).toInt) (i := 14) hFx (by decide)
                          refine jx_inc (pc_q := 88) (l_q := jSto1 L 1 (.int (i32 ((n + (1)))))) (x := n) rfl gL_1 (by decide) rfl rfl ?_
                          obtain ⟨L492, eL492⟩ : ∃ q, q = jSto1 L 1 (.int (i32 ((n + (1))))) := ⟨_, rfl⟩
                          rw [← eL492]
                          have gL492_0 : jGet L492 0 = some (.ref 66) := eL492 ▸ jg_ne (by decide) gL_0 rfl
                          have gL492_1 : jGet L492 1 = some (.int (i32 ((n + (1))))) := eL492 ▸ jg_eq
                          refine jx_ld (pc_q := 89) (l_q := L492) (st_q := [.ref 66]) rfl (jl_aloadn gL492_0) ?_
                          refine jx_ar (pc_q := 90) (st_q := [.ref 66, .ref 66]) rfl rfl rfl rfl ?_
                          refine jr_get (pc_q := 93) (i := 10) (v := .int (i32 (at1))) rfl rfl (by decide) (rFv_eq (by decide) (show (uG Gx 14 ((y488 : Int64).toInt)) 10 = at1 from (ex_at1))) rfl ?_
                          refine jx_ar (pc_q := 94) (st_q := [.int (i32 (1)), .int (i32 (at1)), .ref 66]) rfl rfl rfl rfl ?_
                          refine jx_add (pc_q := 95) rfl rfl ?_
                          refine jr_put (pc_q := 98) (i := 10) (z := (at1 + 1)) rfl rfl (by decide) rfl rfl rfl rfl rfl rfl ?_
                          have hW493 : Wk (uG (uG Gx 14 ((y488 : Int64).toInt)) 10 ((at1 + 1))) Ax := Wk_g hW490 (show (0 : Int) ≤ (at1 + 1) by omega) (show (at1 + 1) ≤ (3002 : Int) by omega)
                          have hF494 := Fr_g (z := (at1 + 1)) (i := 10) hF491 (by decide)
                          refine jx_go (tg := 7) rfl rfl ?_
                          exact ih7 _ (by omega) L492 (uG (uG Gx 14 ((y488 : Int64).toInt)) 10 ((at1 + 1))) Ax ((n + (1))) ((at1 + 1)) (A 0 ((at1 + 1)).toNat) rfl gL492_0 gL492_1 hW493 hF494 (rfl) ((congrFun (hFx.2 0 rfl) _)) (by omega) (by omega) (by omega) (by omega)
                        · have _q : True := trivial
                          refine jx_st (pc_q := 74) (as := [.int (i32 (r479))]) (st := [.long (y478), .ref 66]) rfl rfl ⟨rfl, Nat.le_of_ble_eq_true rfl⟩ rfl rfl rfl (c_digit (dd := d) (hd := by omega) (c := r479)   (h_c := ⟨(Int.le_trans (by decide : (-2147483648 : Int) ≤ -2147483648) b480.1), (Int.le_trans b480.2 (by decide : (2147483647 : Int) ≤ 2147483647))⟩)  ) (fun o V_q hq => ?_)
                          obtain ⟨r495, rfl, rfl, -⟩ := hq
                          refine .inr ⟨_, rfl, ?_⟩
                          refine jx_ar (pc_q := 75) (st_q := .long ((y478 : Int64) + (r495)) :: [.ref 66]) rfl rfl rfl rfl ?_
                          obtain ⟨y497, ey497⟩ : ∃ q : Int64, q = (y478 : Int64) + (r495) := ⟨_, rfl⟩
                          rw [← ey497]
                          refine jx_go (tg := 82) rfl rfl ?_
                          have rl498 := i64_rg (y497)
                          refine jr_put (pc_q := 85) (i := 14) (z := (y497 : Int64).toInt) rfl rfl (by decide) rfl rfl rfl rfl (congrArg Value.long (i64_of (y497))) rfl ?_
                          have hW499 : Wk (uG Gx 14 ((y497 : Int64).toInt)) Ax := Wk_g hWx (show (-9223372036854775808 : Int) ≤ (y497 : Int64).toInt by omega) (show (y497 : Int64).toInt ≤ (9223372036854775807 : Int) by omega)
                          have hF500 := Fr_g (z := (y497 : Int64).toInt) (i := 14) hFx (by decide)
                          refine jx_inc (pc_q := 88) (l_q := jSto1 L 1 (.int (i32 ((n + (1)))))) (x := n) rfl gL_1 (by decide) rfl rfl ?_
                          obtain ⟨L501, eL501⟩ : ∃ q, q = jSto1 L 1 (.int (i32 ((n + (1))))) := ⟨_, rfl⟩
                          rw [← eL501]
                          have gL501_0 : jGet L501 0 = some (.ref 66) := eL501 ▸ jg_ne (by decide) gL_0 rfl
                          have gL501_1 : jGet L501 1 = some (.int (i32 ((n + (1))))) := eL501 ▸ jg_eq
                          refine jx_ld (pc_q := 89) (l_q := L501) (st_q := [.ref 66]) rfl (jl_aloadn gL501_0) ?_
                          refine jx_ar (pc_q := 90) (st_q := [.ref 66, .ref 66]) rfl rfl rfl rfl ?_
                          refine jr_get (pc_q := 93) (i := 10) (v := .int (i32 (at1))) rfl rfl (by decide) (rFv_eq (by decide) (show (uG Gx 14 ((y497 : Int64).toInt)) 10 = at1 from (ex_at1))) rfl ?_
                          refine jx_ar (pc_q := 94) (st_q := [.int (i32 (1)), .int (i32 (at1)), .ref 66]) rfl rfl rfl rfl ?_
                          refine jx_add (pc_q := 95) rfl rfl ?_
                          refine jr_put (pc_q := 98) (i := 10) (z := (at1 + 1)) rfl rfl (by decide) rfl rfl rfl rfl rfl rfl ?_
                          have hW502 : Wk (uG (uG Gx 14 ((y497 : Int64).toInt)) 10 ((at1 + 1))) Ax := Wk_g hW499 (show (0 : Int) ≤ (at1 + 1) by omega) (show (at1 + 1) ≤ (3002 : Int) by omega)
                          have hF503 := Fr_g (z := (at1 + 1)) (i := 10) hF500 (by decide)
                          refine jx_go (tg := 7) rfl rfl ?_
                          exact ih7 _ (by omega) L501 (uG (uG Gx 14 ((y497 : Int64).toInt)) 10 ((at1 + 1))) Ax ((n + (1))) ((at1 + 1)) (A 0 ((at1 + 1)).toNat) rfl gL501_0 gL501_1 hW502 hF503 (rfl) ((congrFun (hFx.2 0 rfl) _)) (by omega) (by omega) (by omega) (by omega)
            · have _q : True := trivial
              refine jx_st (pc_q := 32) (as := [.int (i32 (r365))]) (st := []) rfl rfl ⟨rfl, Nat.le_of_ble_eq_true rfl⟩ rfl rfl rfl (c_isDigit (dd := d) (hd := by omega) (v := r365)   (h_v := ⟨(Int.le_trans (by decide : (-2147483648 : Int) ≤ -2147483648) b366.1), (Int.le_trans b366.2 (by decide : (2147483647 : Int) ≤ 2147483647))⟩)  ) (fun o V_q hq => ?_)
              obtain ⟨r504, rfl, rfl, b505, q506⟩ := hq
              refine .inr ⟨_, rfl, ?_⟩
              rcases q506 with ⟨rfl, a507, a508⟩ | ⟨rfl, a509⟩
              · have _q : True := trivial
                refine jx_if_ne (pc_q := 35) (tg := 48) rfl rfl rfl (by decide) (by decide) (fun h510 => ?_) (fun h510 => ?_)
                · have _q := h510
                  refine jx_ld (pc_q := 49) (l_q := L) (st_q := [.ref 66]) rfl (jl_aloadn gL_0) ?_
                  refine jx_ld (pc_q := 50) (l_q := L) (st_q := [.int (i32 (n)), .ref 66]) rfl (jl_iloadn gL_1) ?_
                  refine jx_ar (pc_q := 52) (st_q := [.int (i32 (10)), .int (i32 (n)), .ref 66]) rfl rfl rfl rfl ?_
                  refine jx_icmp_ge (pc_q := 55) (tg := 78) rfl rfl rfl (Int.le_trans (by decide : (-2147483648 : Int) ≤ -2147483648) rx_n.1) (Int.le_trans rx_n.2 (by decide : (2147483647 : Int) ≤ 2147483647)) (by decide) (by decide) (fun h511 => ?_) (fun h511 => ?_)
                  · have _q := h511
                    refine jx_ld (pc_q := 79) (l_q := L) (st_q := [.ref 66, .ref 66]) rfl (jl_aloadn gL_0) ?_
                    refine jr_get (pc_q := 82) (i := 14) (v := .long (i64 (Gx 14))) rfl rfl (by decide) rfl rfl ?_
                    obtain ⟨y512, ey512⟩ : ∃ q : Int64, q = i64 (Gx 14) := ⟨_, rfl⟩
                    rw [← ey512]
                    have rl513 := i64_rg (y512)
                    refine jr_put (pc_q := 85) (i := 14) (z := (y512 : Int64).toInt) rfl rfl (by decide) rfl rfl rfl rfl (congrArg Value.long (i64_of (y512))) rfl ?_
                    have hW514 : Wk (uG Gx 14 ((y512 : Int64).toInt)) Ax := Wk_g hWx (show (-9223372036854775808 : Int) ≤ (y512 : Int64).toInt by omega) (show (y512 : Int64).toInt ≤ (9223372036854775807 : Int) by omega)
                    have hF515 := Fr_g (z := (y512 : Int64).toInt) (i := 14) hFx (by decide)
                    refine jx_inc (pc_q := 88) (l_q := jSto1 L 1 (.int (i32 ((n + (1)))))) (x := n) rfl gL_1 (by decide) rfl rfl ?_
                    obtain ⟨L516, eL516⟩ : ∃ q, q = jSto1 L 1 (.int (i32 ((n + (1))))) := ⟨_, rfl⟩
                    rw [← eL516]
                    have gL516_0 : jGet L516 0 = some (.ref 66) := eL516 ▸ jg_ne (by decide) gL_0 rfl
                    have gL516_1 : jGet L516 1 = some (.int (i32 ((n + (1))))) := eL516 ▸ jg_eq
                    refine jx_ld (pc_q := 89) (l_q := L516) (st_q := [.ref 66]) rfl (jl_aloadn gL516_0) ?_
                    refine jx_ar (pc_q := 90) (st_q := [.ref 66, .ref 66]) rfl rfl rfl rfl ?_
                    refine jr_get (pc_q := 93) (i := 10) (v := .int (i32 (at1))) rfl rfl (by decide) (rFv_eq (by decide) (show (uG Gx 14 ((y512 : Int64).toInt)) 10 = at1 from (ex_at1))) rfl ?_
                    refine jx_ar (pc_q := 94) (st_q := [.int (i32 (1)), .int (i32 (at1)), .ref 66]) rfl rfl rfl rfl ?_
                    refine jx_add (pc_q := 95) rfl rfl ?_
                    refine jr_put (pc_q := 98) (i := 10) (z := (at1 + 1)) rfl rfl (by decide) rfl rfl rfl rfl rfl rfl ?_
                    have hW517 : Wk (uG (uG Gx 14 ((y512 : Int64).toInt)) 10 ((at1 + 1))) Ax := Wk_g hW514 (show (0 : Int) ≤ (at1 + 1) by omega) (show (at1 + 1) ≤ (3002 : Int) by omega)
                    have hF518 := Fr_g (z := (at1 + 1)) (i := 10) hF515 (by decide)
                    refine jx_go (tg := 7) rfl rfl ?_
                    exact ih7 _ (by omega) L516 (uG (uG Gx 14 ((y512 : Int64).toInt)) 10 ((at1 + 1))) Ax ((n + (1))) ((at1 + 1)) (A 0 ((at1 + 1)).toNat) rfl gL516_0 gL516_1 hW517 hF518 (rfl) ((congrFun (hFx.2 0 rfl) _)) (by omega) (by omega) (by omega) (by omega)
                  · have _q := h511
                    refine jx_hp (pc_q := 58) (st_q := [.long (38), .ref 66]) rfl rfl rfl rfl rfl rfl ?_
                    refine jx_ld (pc_q := 59) (l_q := L) (st_q := [.ref 66, .long (38), .ref 66]) rfl (jl_aloadn gL_0) ?_
                    refine jr_get (pc_q := 62) (i := 14) (v := .long (i64 (Gx 14))) rfl rfl (by decide) rfl rfl ?_
                    obtain ⟨y519, ey519⟩ : ∃ q : Int64, q = i64 (Gx 14) := ⟨_, rfl⟩
                    rw [← ey519]
                    refine jx_ar (pc_q := 63) (st_q := .long ((38 : Int64) * (y519)) :: [.ref 66]) rfl rfl rfl rfl ?_
                    obtain ⟨y520, ey520⟩ : ∃ q : Int64, q = (38 : Int64) * (y519) := ⟨_, rfl⟩
                    rw [← ey520]
                    refine jx_ld (pc_q := 64) (l_q := L) (st_q := [.ref 66, .long (y520), .ref 66]) rfl (jl_aloadn gL_0) ?_
                    refine jx_ld (pc_q := 65) (l_q := L) (st_q := [.ref 66, .ref 66, .long (y520), .ref 66]) rfl (jl_aloadn gL_0) ?_
                    refine jr_get (pc_q := 68) (i := 10) (v := .int (i32 (at1))) rfl rfl (by decide) (rFv_eq (by decide) (show Gx 10 = at1 from (ex_at1))) rfl ?_
                    refine jx_vr (pc_q := 71) (as := [.int (i32 (at1))]) (st := [.long (y520), .ref 66]) rfl rfl rfl rfl ⟨rfl, rfl, Nat.le_of_ble_eq_true rfl⟩ rfl rfl (c_sign (dd := d) (hd := by omega) (hW := hWx) (k := at1) (ln := ln) (e_ln := show Gx 9 = ln from ((hFx.1 9 rfl).trans (e_ln))) (le := le) (e_le := show Ax 4 (ln).toNat = le from (congrFun (hFx.2 4 rfl) _).trans (e_le)) (tx := cur) (e_tx := show Ax 0 (at1).toNat = cur from (ex_cur))  (h_k := ⟨(Int.le_trans (by decide : (-2147483648 : Int) ≤ 0) b_at1.1), (Int.le_trans b_at1.2 (by decide : (3002 : Int) ≤ 2147483647))⟩)  (p_0 := by omega)) (fun o V_q hq => ?_)
                    obtain ⟨r521, rfl, rfl, b522, q523⟩ := hq
                    refine .inr ⟨_, rfl, ?_⟩
                    rcases q523 with ⟨a524, a525⟩ | ⟨a526, a527⟩
                    · have _q : True := trivial
                      refine jx_st (pc_q := 74) (as := [.int (i32 (r521))]) (st := [.long (y520), .ref 66]) rfl rfl ⟨rfl, Nat.le_of_ble_eq_true rfl⟩ rfl rfl rfl (c_digit (dd := d) (hd := by omega) (c := r521)   (h_c := ⟨(Int.le_trans (by decide : (-2147483648 : Int) ≤ -2147483648) b522.1), (Int.le_trans b522.2 (by decide : (2147483647 : Int) ≤ 2147483647))⟩)  ) (fun o V_q hq => ?_)
                      obtain ⟨r528, rfl, rfl, -⟩ := hq
                      refine .inr ⟨_, rfl, ?_⟩
                      refine jx_ar (pc_q := 75) (st_q := .long ((y520 : Int64) + (r528)) :: [.ref 66]) rfl rfl rfl rfl ?_
                      obtain ⟨y530, ey530⟩ : ∃ q : Int64, q = (y520 : Int64) + (r528) := ⟨_, rfl⟩
                      rw [← ey530]
                      refine jx_go (tg := 82) rfl rfl ?_
                      have rl531 := i64_rg (y530)
                      refine jr_put (pc_q := 85) (i := 14) (z := (y530 : Int64).toInt) rfl rfl (by decide) rfl rfl rfl rfl (congrArg Value.long (i64_of (y530))) rfl ?_
                      have hW532 : Wk (uG Gx 14 ((y530 : Int64).toInt)) Ax := Wk_g hWx (show (-9223372036854775808 : Int) ≤ (y530 : Int64).toInt by omega) (show (y530 : Int64).toInt ≤ (9223372036854775807 : Int) by omega)
                      have hF533 := Fr_g (z := (y530 : Int64).toInt) (i := 14) hFx (by decide)
                      refine jx_inc (pc_q := 88) (l_q := jSto1 L 1 (.int (i32 ((n + (1)))))) (x := n) rfl gL_1 (by decide) rfl rfl ?_
                      obtain ⟨L534, eL534⟩ : ∃ q, q = jSto1 L 1 (.int (i32 ((n + (1))))) := ⟨_, rfl⟩
                      rw [← eL534]
                      have gL534_0 : jGet L534 0 = some (.ref 66) := eL534 ▸ jg_ne (by decide) gL_0 rfl
                      have gL534_1 : jGet L534 1 = some (.int (i32 ((n + (1))))) := eL534 ▸ jg_eq
                      refine jx_ld (pc_q := 89) (l_q := L534) (st_q := [.ref 66]) rfl (jl_aloadn gL534_0) ?_
                      refine jx_ar (pc_q := 90) (st_q := [.ref 66, .ref 66]) rfl rfl rfl rfl ?_
                      refine jr_get (pc_q := 93) (i := 10) (v := .int (i32 (at1))) rfl rfl (by decide) (rFv_eq (by decide) (show (uG Gx 14 ((y530 : Int64).toInt)) 10 = at1 from (ex_at1))) rfl ?_
                      refine jx_ar (pc_q := 94) (st_q := [.int (i32 (1)), .int (i32 (at1)), .ref 66]) rfl rfl rfl rfl ?_
                      refine jx_add (pc_q := 95) rfl rfl ?_
                      refine jr_put (pc_q := 98) (i := 10) (z := (at1 + 1)) rfl rfl (by decide) rfl rfl rfl rfl rfl rfl ?_
                      have hW535 : Wk (uG (uG Gx 14 ((y530 : Int64).toInt)) 10 ((at1 + 1))) Ax := Wk_g hW532 (show (0 : Int) ≤ (at1 + 1) by omega) (show (at1 + 1) ≤ (3002 : Int) by omega)
                      have hF536 := Fr_g (z := (at1 + 1)) (i := 10) hF533 (by decide)
                      refine jx_go (tg := 7) rfl rfl ?_
                      exact ih7 _ (by omega) L534 (uG (uG Gx 14 ((y530 : Int64).toInt)) 10 ((at1 + 1))) Ax ((n + (1))) ((at1 + 1)) (A 0 ((at1 + 1)).toNat) rfl gL534_0 gL534_1 hW535 hF536 (rfl) ((congrFun (hFx.2 0 rfl) _)) (by omega) (by omega) (by omega) (by omega)
                    · have _q : True := trivial
                      refine jx_st (pc_q := 74) (as := [.int (i32 (r521))]) (st := [.long (y520), .ref 66]) rfl rfl ⟨rfl, Nat.le_of_ble_eq_true rfl⟩ rfl rfl rfl (c_digit (dd := d) (hd := by omega) (c := r521)   (h_c := ⟨(Int.le_trans (by decide : (-2147483648 : Int) ≤ -2147483648) b522.1), (Int.le_trans b522.2 (by decide : (2147483647 : Int) ≤ 2147483647))⟩)  ) (fun o V_q hq => ?_)
                      obtain ⟨r537, rfl, rfl, -⟩ := hq
                      refine .inr ⟨_, rfl, ?_⟩
                      refine jx_ar (pc_q := 75) (st_q := .long ((y520 : Int64) + (r537)) :: [.ref 66]) rfl rfl rfl rfl ?_
                      obtain ⟨y539, ey539⟩ : ∃ q : Int64, q = (y520 : Int64) + (r537) := ⟨_, rfl⟩
                      rw [← ey539]
                      refine jx_go (tg := 82) rfl rfl ?_
                      have rl540 := i64_rg (y539)
                      refine jr_put (pc_q := 85) (i := 14) (z := (y539 : Int64).toInt) rfl rfl (by decide) rfl rfl rfl rfl (congrArg Value.long (i64_of (y539))) rfl ?_
                      have hW541 : Wk (uG Gx 14 ((y539 : Int64).toInt)) Ax := Wk_g hWx (show (-9223372036854775808 : Int) ≤ (y539 : Int64).toInt by omega) (show (y539 : Int64).toInt ≤ (9223372036854775807 : Int) by omega)
                      have hF542 := Fr_g (z := (y539 : Int64).toInt) (i := 14) hFx (by decide)
                      refine jx_inc (pc_q := 88) (l_q := jSto1 L 1 (.int (i32 ((n + (1)))))) (x := n) rfl gL_1 (by decide) rfl rfl ?_
                      obtain ⟨L543, eL543⟩ : ∃ q, q = jSto1 L 1 (.int (i32 ((n + (1))))) := ⟨_, rfl⟩
                      rw [← eL543]
                      have gL543_0 : jGet L543 0 = some (.ref 66) := eL543 ▸ jg_ne (by decide) gL_0 rfl
                      have gL543_1 : jGet L543 1 = some (.int (i32 ((n + (1))))) := eL543 ▸ jg_eq
                      refine jx_ld (pc_q := 89) (l_q := L543) (st_q := [.ref 66]) rfl (jl_aloadn gL543_0) ?_
                      refine jx_ar (pc_q := 90) (st_q := [.ref 66, .ref 66]) rfl rfl rfl rfl ?_
                      refine jr_get (pc_q := 93) (i := 10) (v := .int (i32 (at1))) rfl rfl (by decide) (rFv_eq (by decide) (show (uG Gx 14 ((y539 : Int64).toInt)) 10 = at1 from (ex_at1))) rfl ?_
                      refine jx_ar (pc_q := 94) (st_q := [.int (i32 (1)), .int (i32 (at1)), .ref 66]) rfl rfl rfl rfl ?_
                      refine jx_add (pc_q := 95) rfl rfl ?_
                      refine jr_put (pc_q := 98) (i := 10) (z := (at1 + 1)) rfl rfl (by decide) rfl rfl rfl rfl rfl rfl ?_
                      have hW544 : Wk (uG (uG Gx 14 ((y539 : Int64).toInt)) 10 ((at1 + 1))) Ax := Wk_g hW541 (show (0 : Int) ≤ (at1 + 1) by omega) (show (at1 + 1) ≤ (3002 : Int) by omega)
                      have hF545 := Fr_g (z := (at1 + 1)) (i := 10) hF542 (by decide)
                      refine jx_go (tg := 7) rfl rfl ?_
                      exact ih7 _ (by omega) L543 (uG (uG Gx 14 ((y539 : Int64).toInt)) 10 ((at1 + 1))) Ax ((n + (1))) ((at1 + 1)) (A 0 ((at1 + 1)).toNat) rfl gL543_0 gL543_1 hW544 hF545 (rfl) ((congrFun (hFx.2 0 rfl) _)) (by omega) (by omega) (by omega) (by omega)
                · have _q := h510
                  exact absurd h510 (by omega)
              · have _q : True := trivial
                refine jx_if_ne (pc_q := 35) (tg := 48) rfl rfl rfl (by decide) (by decide) (fun h546 => ?_) (fun h546 => ?_)
                · have _q := h546
                  exact absurd h546 (by omega)
                · have _q := h546
                  refine jx_ld (pc_q := 36) (l_q := L) (st_q := [.ref 66]) rfl (jl_aloadn gL_0) ?_
                  refine jx_ld (pc_q := 37) (l_q := L) (st_q := [.ref 66, .ref 66]) rfl (jl_aloadn gL_0) ?_
                  refine jr_get (pc_q := 40) (i := 10) (v := .int (i32 (at1))) rfl rfl (by decide) (rFv_eq (by decide) (show Gx 10 = at1 from (ex_at1))) rfl ?_
                  refine jx_vr (pc_q := 43) (as := [.int (i32 (at1))]) (st := []) rfl rfl rfl rfl ⟨rfl, rfl, Nat.le_of_ble_eq_true rfl⟩ rfl rfl (c_sign (dd := d) (hd := by omega) (hW := hWx) (k := at1) (ln := ln) (e_ln := show Gx 9 = ln from ((hFx.1 9 rfl).trans (e_ln))) (le := le) (e_le := show Ax 4 (ln).toNat = le from (congrFun (hFx.2 4 rfl) _).trans (e_le)) (tx := cur) (e_tx := show Ax 0 (at1).toNat = cur from (ex_cur))  (h_k := ⟨(Int.le_trans (by decide : (-2147483648 : Int) ≤ 0) b_at1.1), (Int.le_trans b_at1.2 (by decide : (3002 : Int) ≤ 2147483647))⟩)  (p_0 := by omega)) (fun o V_q hq => ?_)
                  obtain ⟨r547, rfl, rfl, b548, q549⟩ := hq
                  refine .inr ⟨_, rfl, ?_⟩
                  rcases q549 with ⟨a550, a551⟩ | ⟨a552, a553⟩
                  · have _q : True := trivial
                    refine jx_ar (pc_q := 45) (st_q := [.int (i32 (46)), .int (i32 (r547))]) rfl rfl rfl rfl ?_
                    refine jx_icmp_ne (pc_q := 48) (tg := 101) rfl rfl rfl (Int.le_trans (by decide : (-2147483648 : Int) ≤ -2147483648) b548.1) (Int.le_trans b548.2 (by decide : (2147483647 : Int) ≤ 2147483647)) (by decide) (by decide) (fun h554 => ?_) (fun h554 => ?_)
                    · have _q := h554
                      refine jx_ld (pc_q := 102) (l_q := L) (st_q := [.ref 66]) rfl (jl_aloadn gL_0) ?_
                      refine jx_ld (pc_q := 103) (l_q := L) (st_q := [.int (i32 (n)), .ref 66]) rfl (jl_iloadn gL_1) ?_
                      refine jx_ar (pc_q := 105) (st_q := [.int (i32 (10)), .int (i32 (n)), .ref 66]) rfl rfl rfl rfl ?_
                      refine jx_icmp_le (pc_q := 108) (tg := 112) rfl rfl rfl (Int.le_trans (by decide : (-2147483648 : Int) ≤ -2147483648) rx_n.1) (Int.le_trans rx_n.2 (by decide : (2147483647 : Int) ≤ 2147483647)) (by decide) (by decide) (fun h555 => ?_) (fun h555 => ?_)
                      · have _q := h555
                        refine jx_ar (pc_q := 113) (st_q := [.int (i32 (1)), .ref 66]) rfl rfl rfl rfl ?_
                        refine jr_put (pc_q := 116) (i := 11) (z := 1) rfl rfl (by decide) rfl rfl rfl rfl rfl rfl ?_
                        have hW556 : Wk (uG Gx 11 (1)) Ax := Wk_g hWx (show (0 : Int) ≤ 1 by omega) (show 1 ≤ (5 : Int) by omega)
                        have hF557 := Fr_g (z := 1) (i := 11) hFx (by decide)
                        refine jx_rt (v := none) rfl rfl rfl rfl rfl rfl ?_
                        exact ⟨_, _, at1, 1, rfl, rfl, hW556, hF557, (ex_at1), rfl, by omega, by omega, by omega, trivial⟩
                      · have _q := h555
                        refine jx_ar (pc_q := 109) (st_q := [.int (i32 (5)), .ref 66]) rfl rfl rfl rfl ?_
                        refine jx_go (tg := 113) rfl rfl ?_
                        refine jr_put (pc_q := 116) (i := 11) (z := 5) rfl rfl (by decide) rfl rfl rfl rfl rfl rfl ?_
                        have hW558 : Wk (uG Gx 11 (5)) Ax := Wk_g hWx (show (0 : Int) ≤ 5 by omega) (show 5 ≤ (5 : Int) by omega)
                        have hF559 := Fr_g (z := 5) (i := 11) hFx (by decide)
                        refine jx_rt (v := none) rfl rfl rfl rfl rfl rfl ?_
                        exact ⟨_, _, at1, 5, rfl, rfl, hW558, hF559, (ex_at1), rfl, by omega, by omega, by omega, trivial⟩
                    · have _q := h554
                      refine jx_ld (pc_q := 49) (l_q := L) (st_q := [.ref 66]) rfl (jl_aloadn gL_0) ?_
                      refine jx_ld (pc_q := 50) (l_q := L) (st_q := [.int (i32 (n)), .ref 66]) rfl (jl_iloadn gL_1) ?_
                      refine jx_ar (pc_q := 52) (st_q := [.int (i32 (10)), .int (i32 (n)), .ref 66]) rfl rfl rfl rfl ?_
                      refine jx_icmp_ge (pc_q := 55) (tg := 78) rfl rfl rfl (Int.le_trans (by decide : (-2147483648 : Int) ≤ -2147483648) rx_n.1) (Int.le_trans rx_n.2 (by decide : (2147483647 : Int) ≤ 2147483647)) (by decide) (by decide) (fun h560 => ?_) (fun h560 => ?_)
                      · have _q := h560
                        refine jx_ld (pc_q := 79) (l_q := L) (st_q := [.ref 66, .ref 66]) rfl (jl_aloadn gL_0) ?_
                        refine jr_get (pc_q := 82) (i := 14) (v := .long (i64 (Gx 14))) rfl rfl (by decide) rfl rfl ?_
                        obtain ⟨y561, ey561⟩ : ∃ q : Int64, q = i64 (Gx 14) := ⟨_, rfl⟩
                        rw [← ey561]
                        have rl562 := i64_rg (y561)
                        refine jr_put (pc_q := 85) (i := 14) (z := (y561 : Int64).toInt) rfl rfl (by decide) rfl rfl rfl rfl (congrArg Value.long (i64_of (y561))) rfl ?_
                        have hW563 : Wk (uG Gx 14 ((y561 : Int64).toInt)) Ax := Wk_g hWx (show (-9223372036854775808 : Int) ≤ (y561 : Int64).toInt by omega) (show (y561 : Int64).toInt ≤ (9223372036854775807 : Int) by omega)
                        have hF564 := Fr_g (z := (y561 : Int64).toInt) (i := 14) hFx (by decide)
                        refine jx_inc (pc_q := 88) (l_q := jSto1 L 1 (.int (i32 ((n + (1)))))) (x := n) rfl gL_1 (by decide) rfl rfl ?_
                        obtain ⟨L565, eL565⟩ : ∃ q, q = jSto1 L 1 (.int (i32 ((n + (1))))) := ⟨_, rfl⟩
                        rw [← eL565]
                        have gL565_0 : jGet L565 0 = some (.ref 66) := eL565 ▸ jg_ne (by decide) gL_0 rfl
                        have gL565_1 : jGet L565 1 = some (.int (i32 ((n + (1))))) := eL565 ▸ jg_eq
                        refine jx_ld (pc_q := 89) (l_q := L565) (st_q := [.ref 66]) rfl (jl_aloadn gL565_0) ?_
                        refine jx_ar (pc_q := 90) (st_q := [.ref 66, .ref 66]) rfl rfl rfl rfl ?_
                        refine jr_get (pc_q := 93) (i := 10) (v := .int (i32 (at1))) rfl rfl (by decide) (rFv_eq (by decide) (show (uG Gx 14 ((y561 : Int64).toInt)) 10 = at1 from (ex_at1))) rfl ?_
                        refine jx_ar (pc_q := 94) (st_q := [.int (i32 (1)), .int (i32 (at1)), .ref 66]) rfl rfl rfl rfl ?_
                        refine jx_add (pc_q := 95) rfl rfl ?_
                        refine jr_put (pc_q := 98) (i := 10) (z := (at1 + 1)) rfl rfl (by decide) rfl rfl rfl rfl rfl rfl ?_
                        have hW566 : Wk (uG (uG Gx 14 ((y561 : Int64).toInt)) 10 ((at1 + 1))) Ax := Wk_g hW563 (show (0 : Int) ≤ (at1 + 1) by omega) (show (at1 + 1) ≤ (3002 : Int) by omega)
                        have hF567 := Fr_g (z := (at1 + 1)) (i := 10) hF564 (by decide)
                        refine jx_go (tg := 7) rfl rfl ?_
                        exact ih7 _ (by omega) L565 (uG (uG Gx 14 ((y561 : Int64).toInt)) 10 ((at1 + 1))) Ax ((n + (1))) ((at1 + 1)) (A 0 ((at1 + 1)).toNat) rfl gL565_0 gL565_1 hW566 hF567 (rfl) ((congrFun (hFx.2 0 rfl) _)) (by omega) (by omega) (by omega) (by omega)
                      · have _q := h560
                        refine jx_hp (pc_q := 58) (st_q := [.long (38), .ref 66]) rfl rfl rfl rfl rfl rfl ?_
                        refine jx_ld (pc_q := 59) (l_q := L) (st_q := [.ref 66, .long (38), .ref 66]) rfl (jl_aloadn gL_0) ?_
                        refine jr_get (pc_q := 62) (i := 14) (v := .long (i64 (Gx 14))) rfl rfl (by decide) rfl rfl ?_
                        obtain ⟨y568, ey568⟩ : ∃ q : Int64, q = i64 (Gx 14) := ⟨_, rfl⟩
                        rw [← ey568]
                        refine jx_ar (pc_q := 63) (st_q := .long ((38 : Int64) * (y568)) :: [.ref 66]) rfl rfl rfl rfl ?_
                        obtain ⟨y569, ey569⟩ : ∃ q : Int64, q = (38 : Int64) * (y568) := ⟨_, rfl⟩
                        rw [← ey569]
                        refine jx_ld (pc_q := 64) (l_q := L) (st_q := [.ref 66, .long (y569), .ref 66]) rfl (jl_aloadn gL_0) ?_
                        refine jx_ld (pc_q := 65) (l_q := L) (st_q := [.ref 66, .ref 66, .long (y569), .ref 66]) rfl (jl_aloadn gL_0) ?_
                        refine jr_get (pc_q := 68) (i := 10) (v := .int (i32 (at1))) rfl rfl (by decide) (rFv_eq (by decide) (show Gx 10 = at1 from (ex_at1))) rfl ?_
                        refine jx_vr (pc_q := 71) (as := [.int (i32 (at1))]) (st := [.long (y569), .ref 66]) rfl rfl rfl rfl ⟨rfl, rfl, Nat.le_of_ble_eq_true rfl⟩ rfl rfl (c_sign (dd := d) (hd := by omega) (hW := hWx) (k := at1) (ln := ln) (e_ln := show Gx 9 = ln from ((hFx.1 9 rfl).trans (e_ln))) (le := le) (e_le := show Ax 4 (ln).toNat = le from (congrFun (hFx.2 4 rfl) _).trans (e_le)) (tx := cur) (e_tx := show Ax 0 (at1).toNat = cur from (ex_cur))  (h_k := ⟨(Int.le_trans (by decide : (-2147483648 : Int) ≤ 0) b_at1.1), (Int.le_trans b_at1.2 (by decide : (3002 : Int) ≤ 2147483647))⟩)  (p_0 := by omega)) (fun o V_q hq => ?_)
                        obtain ⟨r570, rfl, rfl, b571, q572⟩ := hq
                        refine .inr ⟨_, rfl, ?_⟩
                        rcases q572 with ⟨a573, a574⟩ | ⟨a575, a576⟩
                        · have _q : True := trivial
                          refine jx_st (pc_q := 74) (as := [.int (i32 (r570))]) (st := [.long (y569), .ref 66]) rfl rfl ⟨rfl, Nat.le_of_ble_eq_true rfl⟩ rfl rfl rfl (c_digit (dd := d) (hd := by omega) (c := r570)   (h_c := ⟨(Int.le_trans (by decide : (-2147483648 : Int) ≤ -2147483648) b571.1), (Int.le_trans b571.2 (by decide : (2147483647 : Int) ≤ 2147483647))⟩)  ) (fun o V_q hq => ?_)
                          obtain ⟨r577, rfl, rfl, -⟩ := hq
                          refine .inr ⟨_, rfl, ?_⟩
                          refine jx_ar (pc_q := 75) (st_q := .long ((y569 : Int64) + (r577)) :: [.ref 66]) rfl rfl rfl rfl ?_
                          obtain ⟨y579, ey579⟩ : ∃ q : Int64, q = (y569 : Int64) + (r577) := ⟨_, rfl⟩
                          rw [← ey579]
                          refine jx_go (tg := 82) rfl rfl ?_
                          have rl580 := i64_rg (y579)
                          refine jr_put (pc_q := 85) (i := 14) (z := (y579 : Int64).toInt) rfl rfl (by decide) rfl rfl rfl rfl (congrArg Value.long (i64_of (y579))) rfl ?_
                          have hW581 : Wk (uG Gx 14 ((y579 : Int64).toInt)) Ax := Wk_g hWx (show (-9223372036854775808 : Int) ≤ (y579 : Int64).toInt by omega) (show (y579 : Int64).toInt ≤ (9223372036854775807 : Int) by omega)
                          have hF582 := Fr_g (z := (y579 : Int64).toInt) (i := 14) hFx (by decide)
                          refine jx_inc (pc_q := 88) (l_q := jSto1 L 1 (.int (i32 ((n + (1)))))) (x := n) rfl gL_1 (by decide) rfl rfl ?_
                          obtain ⟨L583, eL583⟩ : ∃ q, q = jSto1 L 1 (.int (i32 ((n + (1))))) := ⟨_, rfl⟩
                          rw [← eL583]
                          have gL583_0 : jGet L583 0 = some (.ref 66) := eL583 ▸ jg_ne (by decide) gL_0 rfl
                          have gL583_1 : jGet L583 1 = some (.int (i32 ((n + (1))))) := eL583 ▸ jg_eq
                          refine jx_ld (pc_q := 89) (l_q := L583) (st_q := [.ref 66]) rfl (jl_aloadn gL583_0) ?_
                          refine jx_ar (pc_q := 90) (st_q := [.ref 66, .ref 66]) rfl rfl rfl rfl ?_
                          refine jr_get (pc_q := 93) (i := 10) (v := .int (i32 (at1))) rfl rfl (by decide) (rFv_eq (by decide) (show (uG Gx 14 ((y579 : Int64).toInt)) 10 = at1 from (ex_at1))) rfl ?_
                          refine jx_ar (pc_q := 94) (st_q := [.int (i32 (1)), .int (i32 (at1)), .ref 66]) rfl rfl rfl rfl ?_
                          refine jx_add (pc_q := 95) rfl rfl ?_
                          refine jr_put (pc_q := 98) (i := 10) (z := (at1 + 1)) rfl rfl (by decide) rfl rfl rfl rfl rfl rfl ?_
                          have hW584 : Wk (uG (uG Gx 14 ((y579 : Int64).toInt)) 10 ((at1 + 1))) Ax := Wk_g hW581 (show (0 : Int) ≤ (at1 + 1) by omega) (show (at1 + 1) ≤ (3002 : Int) by omega)
                          have hF585 := Fr_g (z := (at1 + 1)) (i := 10) hF582 (by decide)
                          refine jx_go (tg := 7) rfl rfl ?_
                          exact ih7 _ (by omega) L583 (uG (uG Gx 14 ((y579 : Int64).toInt)) 10 ((at1 + 1))) Ax ((n + (1))) ((at1 + 1)) (A 0 ((at1 + 1)).toNat) rfl gL583_0 gL583_1 hW584 hF585 (rfl) ((congrFun (hFx.2 0 rfl) _)) (by omega) (by omega) (by omega) (by omega)
                        · have _q : True := trivial
                          refine jx_st (pc_q := 74) (as := [.int (i32 (r570))]) (st := [.long (y569), .ref 66]) rfl rfl ⟨rfl, Nat.le_of_ble_eq_true rfl⟩ rfl rfl rfl (c_digit (dd := d) (hd := by omega) (c := r570)   (h_c := ⟨(Int.le_trans (by decide : (-2147483648 : Int) ≤ -2147483648) b571.1), (Int.le_trans b571.2 (by decide : (2147483647 : Int) ≤ 2147483647))⟩)  ) (fun o V_q hq => ?_)
                          obtain ⟨r586, rfl, rfl, -⟩ := hq
                          refine .inr ⟨_, rfl, ?_⟩
                          refine jx_ar (pc_q := 75) (st_q := .long ((y569 : Int64) + (r586)) :: [.ref 66]) rfl rfl rfl rfl ?_
                          obtain ⟨y588, ey588⟩ : ∃ q : Int64, q = (y569 : Int64) + (r586) := ⟨_, rfl⟩
                          rw [← ey588]
                          refine jx_go (tg := 82) rfl rfl ?_
                          have rl589 := i64_rg (y588)
                          refine jr_put (pc_q := 85) (i := 14) (z := (y588 : Int64).toInt) rfl rfl (by decide) rfl rfl rfl rfl (congrArg Value.long (i64_of (y588))) rfl ?_
                          have hW590 : Wk (uG Gx 14 ((y588 : Int64).toInt)) Ax := Wk_g hWx (show (-9223372036854775808 : Int) ≤ (y588 : Int64).toInt by omega) (show (y588 : Int64).toInt ≤ (9223372036854775807 : Int) by omega)
                          have hF591 := Fr_g (z := (y588 : Int64).toInt) (i := 14) hFx (by decide)
                          refine jx_inc (pc_q := 88) (l_q := jSto1 L 1 (.int (i32 ((n + (1)))))) (x := n) rfl gL_1 (by decide) rfl rfl ?_
                          obtain ⟨L592, eL592⟩ : ∃ q, q = jSto1 L 1 (.int (i32 ((n + (1))))) := ⟨_, rfl⟩
                          rw [← eL592]
                          have gL592_0 : jGet L592 0 = some (.ref 66) := eL592 ▸ jg_ne (by decide) gL_0 rfl
                          have gL592_1 : jGet L592 1 = some (.int (i32 ((n + (1))))) := eL592 ▸ jg_eq
                          refine jx_ld (pc_q := 89) (l_q := L592) (st_q := [.ref 66]) rfl (jl_aloadn gL592_0) ?_
                          refine jx_ar (pc_q := 90) (st_q := [.ref 66, .ref 66]) rfl rfl rfl rfl ?_
                          refine jr_get (pc_q := 93) (i := 10) (v := .int (i32 (at1))) rfl rfl (by decide) (rFv_eq (by decide) (show (uG Gx 14 ((y588 : Int64).toInt)) 10 = at1 from (ex_at1))) rfl ?_
                          refine jx_ar (pc_q := 94) (st_q := [.int (i32 (1)), .int (i32 (at1)), .ref 66]) rfl rfl rfl rfl ?_
                          refine jx_add (pc_q := 95) rfl rfl ?_
                          refine jr_put (pc_q := 98) (i := 10) (z := (at1 + 1)) rfl rfl (by decide) rfl rfl rfl rfl rfl rfl ?_
                          have hW593 : Wk (uG (uG Gx 14 ((y588 : Int64).toInt)) 10 ((at1 + 1))) Ax := Wk_g hW590 (show (0 : Int) ≤ (at1 + 1) by omega) (show (at1 + 1) ≤ (3002 : Int) by omega)
                          have hF594 := Fr_g (z := (at1 + 1)) (i := 10) hF591 (by decide)
                          refine jx_go (tg := 7) rfl rfl ?_
                          exact ih7 _ (by omega) L592 (uG (uG Gx 14 ((y588 : Int64).toInt)) 10 ((at1 + 1))) Ax ((n + (1))) ((at1 + 1)) (A 0 ((at1 + 1)).toNat) rfl gL592_0 gL592_1 hW593 hF594 (rfl) ((congrFun (hFx.2 0 rfl) _)) (by omega) (by omega) (by omega) (by omega)
                  · have _q : True := trivial
                    refine jx_ar (pc_q := 45) (st_q := [.int (i32 (46)), .int (i32 (r547))]) rfl rfl rfl rfl ?_
                    refine jx_icmp_ne (pc_q := 48) (tg := 101) rfl rfl rfl (Int.le_trans (by decide : (-2147483648 : Int) ≤ -2147483648) b548.1) (Int.le_trans b548.2 (by decide : (2147483647 : Int) ≤ 2147483647)) (by decide) (by decide) (fun h595 => ?_) (fun h595 => ?_)
                    · have _q := h595
                      refine jx_ld (pc_q := 102) (l_q := L) (st_q := [.ref 66]) rfl (jl_aloadn gL_0) ?_
                      refine jx_ld (pc_q := 103) (l_q := L) (st_q := [.int (i32 (n)), .ref 66]) rfl (jl_iloadn gL_1) ?_
                      refine jx_ar (pc_q := 105) (st_q := [.int (i32 (10)), .int (i32 (n)), .ref 66]) rfl rfl rfl rfl ?_
                      refine jx_icmp_le (pc_q := 108) (tg := 112) rfl rfl rfl (Int.le_trans (by decide : (-2147483648 : Int) ≤ -2147483648) rx_n.1) (Int.le_trans rx_n.2 (by decide : (2147483647 : Int) ≤ 2147483647)) (by decide) (by decide) (fun h596 => ?_) (fun h596 => ?_)
                      · have _q := h596
                        refine jx_ar (pc_q := 113) (st_q := [.int (i32 (1)), .ref 66]) rfl rfl rfl rfl ?_
                        refine jr_put (pc_q := 116) (i := 11) (z := 1) rfl rfl (by decide) rfl rfl rfl rfl rfl rfl ?_
                        have hW597 : Wk (uG Gx 11 (1)) Ax := Wk_g hWx (show (0 : Int) ≤ 1 by omega) (show 1 ≤ (5 : Int) by omega)
                        have hF598 := Fr_g (z := 1) (i := 11) hFx (by decide)
                        refine jx_rt (v := none) rfl rfl rfl rfl rfl rfl ?_
                        exact ⟨_, _, at1, 1, rfl, rfl, hW597, hF598, (ex_at1), rfl, by omega, by omega, by omega, trivial⟩
                      · have _q := h596
                        refine jx_ar (pc_q := 109) (st_q := [.int (i32 (5)), .ref 66]) rfl rfl rfl rfl ?_
                        refine jx_go (tg := 113) rfl rfl ?_
                        refine jr_put (pc_q := 116) (i := 11) (z := 5) rfl rfl (by decide) rfl rfl rfl rfl rfl rfl ?_
                        have hW599 : Wk (uG Gx 11 (5)) Ax := Wk_g hWx (show (0 : Int) ≤ 5 by omega) (show 5 ≤ (5 : Int) by omega)
                        have hF600 := Fr_g (z := 5) (i := 11) hFx (by decide)
                        refine jx_rt (v := none) rfl rfl rfl rfl rfl rfl ?_
                        exact ⟨_, _, at1, 5, rfl, rfl, hW599, hF600, (ex_at1), rfl, by omega, by omega, by omega, trivial⟩
                    · have _q := h595
                      refine jx_ld (pc_q := 49) (l_q := L) (st_q := [.ref 66]) rfl (jl_aloadn gL_0) ?_
                      refine jx_ld (pc_q := 50) (l_q := L) (st_q := [.int (i32 (n)), .ref 66]) rfl (jl_iloadn gL_1) ?_
                      refine jx_ar (pc_q := 52) (st_q := [.int (i32 (10)), .int (i32 (n)), .ref 66]) rfl rfl rfl rfl ?_
                      refine jx_icmp_ge (pc_q := 55) (tg := 78) rfl rfl rfl (Int.le_trans (by decide : (-2147483648 : Int) ≤ -2147483648) rx_n.1) (Int.le_trans rx_n.2 (by decide : (2147483647 : Int) ≤ 2147483647)) (by decide) (by decide) (fun h601 => ?_) (fun h601 => ?_)
                      · have _q := h601
                        refine jx_ld (pc_q := 79) (l_q := L) (st_q := [.ref 66, .ref 66]) rfl (jl_aloadn gL_0) ?_
                        refine jr_get (pc_q := 82) (i := 14) (v := .long (i64 (Gx 14))) rfl rfl (by decide) rfl rfl ?_
                        obtain ⟨y602, ey602⟩ : ∃ q : Int64, q = i64 (Gx 14) := ⟨_, rfl⟩
                        rw [← ey602]
                        have rl603 := i64_rg (y602)
                        refine jr_put (pc_q := 85) (i := 14) (z := (y602 : Int64).toInt) rfl rfl (by decide) rfl rfl rfl rfl (congrArg Value.long (i64_of (y602))) rfl ?_
                        have hW604 : Wk (uG Gx 14 ((y602 : Int64).toInt)) Ax := Wk_g hWx (show (-9223372036854775808 : Int) ≤ (y602 : Int64).toInt by omega) (show (y602 : Int64).toInt ≤ (9223372036854775807 : Int) by omega)
                        have hF605 := Fr_g (z := (y602 : Int64).toInt) (i := 14) hFx (by decide)
                        refine jx_inc (pc_q := 88) (l_q := jSto1 L 1 (.int (i32 ((n + (1)))))) (x := n) rfl gL_1 (by decide) rfl rfl ?_
                        obtain ⟨L606, eL606⟩ : ∃ q, q = jSto1 L 1 (.int (i32 ((n + (1))))) := ⟨_, rfl⟩
                        rw [← eL606]
                        have gL606_0 : jGet L606 0 = some (.ref 66) := eL606 ▸ jg_ne (by decide) gL_0 rfl
                        have gL606_1 : jGet L606 1 = some (.int (i32 ((n + (1))))) := eL606 ▸ jg_eq
                        refine jx_ld (pc_q := 89) (l_q := L606) (st_q := [.ref 66]) rfl (jl_aloadn gL606_0) ?_
                        refine jx_ar (pc_q := 90) (st_q := [.ref 66, .ref 66]) rfl rfl rfl rfl ?_
                        refine jr_get (pc_q := 93) (i := 10) (v := .int (i32 (at1))) rfl rfl (by decide) (rFv_eq (by decide) (show (uG Gx 14 ((y602 : Int64).toInt)) 10 = at1 from (ex_at1))) rfl ?_
                        refine jx_ar (pc_q := 94) (st_q := [.int (i32 (1)), .int (i32 (at1)), .ref 66]) rfl rfl rfl rfl ?_
                        refine jx_add (pc_q := 95) rfl rfl ?_
                        refine jr_put (pc_q := 98) (i := 10) (z := (at1 + 1)) rfl rfl (by decide) rfl rfl rfl rfl rfl rfl ?_
                        have hW607 : Wk (uG (uG Gx 14 ((y602 : Int64).toInt)) 10 ((at1 + 1))) Ax := Wk_g hW604 (show (0 : Int) ≤ (at1 + 1) by omega) (show (at1 + 1) ≤ (3002 : Int) by omega)
                        have hF608 := Fr_g (z := (at1 + 1)) (i := 10) hF605 (by decide)
                        refine jx_go (tg := 7) rfl rfl ?_
                        exact ih7 _ (by omega) L606 (uG (uG Gx 14 ((y602 : Int64).toInt)) 10 ((at1 + 1))) Ax ((n + (1))) ((at1 + 1)) (A 0 ((at1 + 1)).toNat) rfl gL606_0 gL606_1 hW607 hF608 (rfl) ((congrFun (hFx.2 0 rfl) _)) (by omega) (by omega) (by omega) (by omega)
                      · have _q := h601
                        refine jx_hp (pc_q := 58) (st_q := [.long (38), .ref 66]) rfl rfl rfl rfl rfl rfl ?_
                        refine jx_ld (pc_q := 59) (l_q := L) (st_q := [.ref 66, .long (38), .ref 66]) rfl (jl_aloadn gL_0) ?_
                        refine jr_get (pc_q := 62) (i := 14) (v := .long (i64 (Gx 14))) rfl rfl (by decide) rfl rfl ?_
                        obtain ⟨y609, ey609⟩ : ∃ q : Int64, q = i64 (Gx 14) := ⟨_, rfl⟩
                        rw [← ey609]
                        refine jx_ar (pc_q := 63) (st_q := .long ((38 : Int64) * (y609)) :: [.ref 66]) rfl rfl rfl rfl ?_
                        obtain ⟨y610, ey610⟩ : ∃ q : Int64, q = (38 : Int64) * (y609) := ⟨_, rfl⟩
                        rw [← ey610]
                        refine jx_ld (pc_q := 64) (l_q := L) (st_q := [.ref 66, .long (y610), .ref 66]) rfl (jl_aloadn gL_0) ?_
                        refine jx_ld (pc_q := 65) (l_q := L) (st_q := [.ref 66, .ref 66, .long (y610), .ref 66]) rfl (jl_aloadn gL_0) ?_
                        refine jr_get (pc_q := 68) (i := 10) (v := .int (i32 (at1))) rfl rfl (by decide) (rFv_eq (by decide) (show Gx 10 = at1 from (ex_at1))) rfl ?_
                        refine jx_vr (pc_q := 71) (as := [.int (i32 (at1))]) (st := [.long (y610), .ref 66]) rfl rfl rfl rfl ⟨rfl, rfl, Nat.le_of_ble_eq_true rfl⟩ rfl rfl (c_sign (dd := d) (hd := by omega) (hW := hWx) (k := at1) (ln := ln) (e_ln := show Gx 9 = ln from ((hFx.1 9 rfl).trans (e_ln))) (le := le) (e_le := show Ax 4 (ln).toNat = le from (congrFun (hFx.2 4 rfl) _).trans (e_le)) (tx := cur) (e_tx := show Ax 0 (at1).toNat = cur from (ex_cur))  (h_k := ⟨(Int.le_trans (by decide : (-2147483648 : Int) ≤ 0) b_at1.1), (Int.le_trans b_at1.2 (by decide : (3002 : Int) ≤ 2147483647))⟩)  (p_0 := by omega)) (fun o V_q hq => ?_)
                        obtain ⟨r611, rfl, rfl, b612, q613⟩ := hq
                        refine .inr ⟨_, rfl, ?_⟩
                        rcases q613 with ⟨a614, a615⟩ | ⟨a616, a617⟩
                        · have _q : True := trivial
                          refine jx_st (pc_q := 74) (as := [.int (i32 (r611))]) (st := [.long (y610), .ref 66]) rfl rfl ⟨rfl, Nat.le_of_ble_eq_true rfl⟩ rfl rfl rfl (c_digit (dd := d) (hd := by omega) (c := r611)   (h_c := ⟨(Int.le_trans (by decide : (-2147483648 : Int) ≤ -2147483648) b612.1), (Int.le_trans b612.2 (by decide : (2147483647 : Int) ≤ 2147483647))⟩)  ) (fun o V_q hq => ?_)
                          obtain ⟨r618, rfl, rfl, -⟩ := hq
                          refine .inr ⟨_, rfl, ?_⟩
                          refine jx_ar (pc_q := 75) (st_q := .long ((y610 : Int64) + (r618)) :: [.ref 66]) rfl rfl rfl rfl ?_
                          obtain ⟨y620, ey620⟩ : ∃ q : Int64, q = (y610 : Int64) + (r618) := ⟨_, rfl⟩
                          rw [← ey620]
                          refine jx_go (tg := 82) rfl rfl ?_
                          have rl621 := i64_rg (y620)
                          refine jr_put (pc_q := 85) (i := 14) (z := (y620 : Int64).toInt) rfl rfl (by decide) rfl rfl rfl rfl (congrArg Value.long (i64_of (y620))) rfl ?_
                          have hW622 : Wk (uG Gx 14 ((y620 : Int64).toInt)) Ax := Wk_g hWx (show (-9223372036854775808 : Int) ≤ (y620 : Int64).toInt by omega) (show (y620 : Int64).toInt ≤ (9223372036854775807 : Int) by omega)
                          have hF623 := Fr_g (z := (y620 : Int64).toInt) (i := 14) hFx (by decide)
                          refine jx_inc (pc_q := 88) (l_q := jSto1 L 1 (.int (i32 ((n + (1)))))) (x := n) rfl gL_1 (by decide) rfl rfl ?_
                          obtain ⟨L624, eL624⟩ : ∃ q, q = jSto1 L 1 (.int (i32 ((n + (1))))) := ⟨_, rfl⟩
                          rw [← eL624]
                          have gL624_0 : jGet L624 0 = some (.ref 66) := eL624 ▸ jg_ne (by decide) gL_0 rfl
                          have gL624_1 : jGet L624 1 = some (.int (i32 ((n + (1))))) := eL624 ▸ jg_eq
                          refine jx_ld (pc_q := 89) (l_q := L624) (st_q := [.ref 66]) rfl (jl_aloadn gL624_0) ?_
                          refine jx_ar (pc_q := 90) (st_q := [.ref 66, .ref 66]) rfl rfl rfl rfl ?_
                          refine jr_get (pc_q := 93) (i := 10) (v := .int (i32 (at1))) rfl rfl (by decide) (rFv_eq (by decide) (show (uG Gx 14 ((y620 : Int64).toInt)) 10 = at1 from (ex_at1))) rfl ?_
                          refine jx_ar (pc_q := 94) (st_q := [.int (i32 (1)), .int (i32 (at1)), .ref 66]) rfl rfl rfl rfl ?_
                          refine jx_add (pc_q := 95) rfl rfl ?_
                          refine jr_put (pc_q := 98) (i := 10) (z := (at1 + 1)) rfl rfl (by decide) rfl rfl rfl rfl rfl rfl ?_
                          have hW625 : Wk (uG (uG Gx 14 ((y620 : Int64).toInt)) 10 ((at1 + 1))) Ax := Wk_g hW622 (show (0 : Int) ≤ (at1 + 1) by omega) (show (at1 + 1) ≤ (3002 : Int) by omega)
                          have hF626 := Fr_g (z := (at1 + 1)) (i := 10) hF623 (by decide)
                          refine jx_go (tg := 7) rfl rfl ?_
                          exact ih7 _ (by omega) L624 (uG (uG Gx 14 ((y620 : Int64).toInt)) 10 ((at1 + 1))) Ax ((n + (1))) ((at1 + 1)) (A 0 ((at1 + 1)).toNat) rfl gL624_0 gL624_1 hW625 hF626 (rfl) ((congrFun (hFx.2 0 rfl) _)) (by omega) (by omega) (by omega) (by omega)
                        · have _q : True := trivial
                          refine jx_st (pc_q := 74) (as := [.int (i32 (r611))]) (st := [.long (y610), .ref 66]) rfl rfl ⟨rfl, Nat.le_of_ble_eq_true rfl⟩ rfl rfl rfl (c_digit (dd := d) (hd := by omega) (c := r611)   (h_c := ⟨(Int.le_trans (by decide : (-2147483648 : Int) ≤ -2147483648) b612.1), (Int.le_trans b612.2 (by decide : (2147483647 : Int) ≤ 2147483647))⟩)  ) (fun o V_q hq => ?_)
                          obtain ⟨r627, rfl, rfl, -⟩ := hq
                          refine .inr ⟨_, rfl, ?_⟩
                          refine jx_ar (pc_q := 75) (st_q := .long ((y610 : Int64) + (r627)) :: [.ref 66]) rfl rfl rfl rfl ?_
                          obtain ⟨y629, ey629⟩ : ∃ q : Int64, q = (y610 : Int64) + (r627) := ⟨_, rfl⟩
                          rw [← ey629]
                          refine jx_go (tg := 82) rfl rfl ?_
                          have rl630 := i64_rg (y629)
                          refine jr_put (pc_q := 85) (i := 14) (z := (y629 : Int64).toInt) rfl rfl (by decide) rfl rfl rfl rfl (congrArg Value.long (i64_of (y629))) rfl ?_
                          have hW631 : Wk (uG Gx 14 ((y629 : Int64).toInt)) Ax := Wk_g hWx (show (-9223372036854775808 : Int) ≤ (y629 : Int64).toInt by omega) (show (y629 : Int64).toInt ≤ (9223372036854775807 : Int) by omega)
                          have hF632 := Fr_g (z := (y629 : Int64).toInt) (i := 14) hFx (by decide)
                          refine jx_inc (pc_q := 88) (l_q := jSto1 L 1 (.int (i32 ((n + (1)))))) (x := n) rfl gL_1 (by decide) rfl rfl ?_
                          obtain ⟨L633, eL633⟩ : ∃ q, q = jSto1 L 1 (.int (i32 ((n + (1))))) := ⟨_, rfl⟩
                          rw [← eL633]
                          have gL633_0 : jGet L633 0 = some (.ref 66) := eL633 ▸ jg_ne (by decide) gL_0 rfl
                          have gL633_1 : jGet L633 1 = some (.int (i32 ((n + (1))))) := eL633 ▸ jg_eq
                          refine jx_ld (pc_q := 89) (l_q := L633) (st_q := [.ref 66]) rfl (jl_aloadn gL633_0) ?_
                          refine jx_ar (pc_q := 90) (st_q := [.ref 66, .ref 66]) rfl rfl rfl rfl ?_
                          refine jr_get (pc_q := 93) (i := 10) (v := .int (i32 (at1))) rfl rfl (by decide) (rFv_eq (by decide) (show (uG Gx 14 ((y629 : Int64).toInt)) 10 = at1 from (ex_at1))) rfl ?_
                          refine jx_ar (pc_q := 94) (st_q := [.int (i32 (1)), .int (i32 (at1)), .ref 66]) rfl rfl rfl rfl ?_
                          refine jx_add (pc_q := 95) rfl rfl ?_
                          refine jr_put (pc_q := 98) (i := 10) (z := (at1 + 1)) rfl rfl (by decide) rfl rfl rfl rfl rfl rfl ?_
                          have hW634 : Wk (uG (uG Gx 14 ((y629 : Int64).toInt)) 10 ((at1 + 1))) Ax := Wk_g hW631 (show (0 : Int) ≤ (at1 + 1) by omega) (show (at1 + 1) ≤ (3002 : Int) by omega)
                          have hF635 := Fr_g (z := (at1 + 1)) (i := 10) hF632 (by decide)
                          refine jx_go (tg := 7) rfl rfl ?_
                          exact ih7 _ (by omega) L633 (uG (uG Gx 14 ((y629 : Int64).toInt)) 10 ((at1 + 1))) Ax ((n + (1))) ((at1 + 1)) (A 0 ((at1 + 1)).toNat) rfl gL633_0 gL633_1 hW634 hF635 (rfl) ((congrFun (hFx.2 0 rfl) _)) (by omega) (by omega) (by omega) (by omega)
  refine jx_ar (pc_q := 1) (st_q := [.int (i32 (0))]) rfl rfl rfl rfl ?_
  refine jx_ld (pc_q := 2) (l_q := jSto1 [(0, .ref 66)] 1 (.int (i32 (0)))) (st_q := []) rfl rfl ?_
  obtain ⟨L636, eL636⟩ : ∃ q, q = jSto1 [(0, .ref 66)] 1 (.int (i32 (0))) := ⟨_, rfl⟩
  rw [← eL636]
  have gL636_0 : jGet L636 0 = some (.ref 66) := eL636 ▸ jg_ne (by decide) (rfl : jGet [(0, .ref 66)] 0 = some (.ref 66)) rfl
  have gL636_1 : jGet L636 1 = some (.int (i32 (0))) := eL636 ▸ jg_eq
  refine jx_ld (pc_q := 3) (l_q := L636) (st_q := [.ref 66]) rfl (jl_aloadn gL636_0) ?_
  refine jx_ar (pc_q := 4) (st_q := [.long (Int64.ofNat 0), .ref 66]) rfl rfl rfl rfl ?_
  have rl637 := i64_rg (Int64.ofNat 0)
  refine jr_put (pc_q := 7) (i := 14) (z := (Int64.ofNat 0 : Int64).toInt) rfl rfl (by decide) rfl rfl rfl rfl (congrArg Value.long (i64_of (Int64.ofNat 0))) rfl ?_
  have hW638 : Wk (uG G 14 ((Int64.ofNat 0 : Int64).toInt)) A := Wk_g hW (show (-9223372036854775808 : Int) ≤ (Int64.ofNat 0 : Int64).toInt by omega) (show (Int64.ofNat 0 : Int64).toInt ≤ (9223372036854775807 : Int) by omega)
  have hF639 := Fr_g (z := (Int64.ofNat 0 : Int64).toInt) (i := 14) hF0 (by decide)
  exact at_7 _ L636 (uG G 14 ((Int64.ofNat 0 : Int64).toInt)) A (0) (at0) (tx) rfl gL636_0 gL636_1 hW638 hF639 ((e_at0)) ((e_tx)) (by omega) (by omega) (by omega) (by omega)
set_option maxRecDepth 20000 in
set_option maxHeartbeats 4000000 in
theorem c_keyToken {X : jX} {dd : Nat} {c0 c1 : jC} {G : Nat → Int} {A : Nat → Nat → Int} {T : jH} {ln le at0 tx : Int} (hd : 2 ≤ dd) (hW : Wk G A) (e_ln : G 9 = ln) (e_le : A 4 (ln).toNat = le) (e_at0 : G 10 = at0) (e_tx : A 0 (at0).toNat = tx) (p_0 : at0 < le) (p_1 : 65 ≤ tx ∧ tx ≤ 90) : wk X dd 262 [.ref 66] (rV c0 c1 G A T) (fun o V_q => ∃ (G_q : Nat → Int) (A_q : Nat → Nat → Int) (at2 : Int) (tk2 : Int), V_q = rV c0 c1 G_q A_q T ∧ o = .inl none ∧ Wk G_q A_q ∧ Fr [10, 11, 13] [] G A G_q A_q ∧ G_q 10 = at2 ∧ G_q 11 = tk2 ∧ (at0 < at2) ∧ (at2 ≤ le) ∧ (1 ≤ tk2) ∧ True) := by
  obtain ⟨d, rfl⟩ : ∃ d, dd = d + 1 := ⟨dd - 1, by omega⟩
  refine wk_of (e := jm262) rfl (Nat.le_of_ble_eq_true rfl) ?_
  show wj X d jm262 (0, [(0, .ref 66)], [], rV c0 c1 G A T) _
  have hF0 : Fr [10, 11, 13] [] G A G A := Fr_rf
  have b_ln : (0 : Int) ≤ ln ∧ ln ≤ 3000 := e_ln ▸ hW.1 9
  have b_le : (0 : Int) ≤ le ∧ le ≤ 3000 := e_le ▸ hW.2 4 _
  have b_at0 : (0 : Int) ≤ at0 ∧ at0 ≤ 3002 := e_at0 ▸ hW.1 10
  have b_tx : (0 : Int) ≤ tx ∧ tx ≤ 126 := e_tx ▸ hW.2 0 _
  have at_4 : ∀ (m : Nat) (L : jL) (Gx : Nat → Int) (Ax : Nat → Nat → Int) (n at1 cur : Int) (v : Int64), (le - at1).toNat = m → jGet L 0 = some (.ref 66) → jGet L 1 = some (.int (i32 n)) → jGet L 2 = some (.long v) → Wk Gx Ax → Fr [10, 11, 13] [] G A Gx Ax → Gx 10 = at1 → Ax 0 (at1).toNat = cur → ((-2147483648 : Int) ≤ n ∧ n ≤ 2147483647) → (at0 ≤ at1 ∧ at1 ≤ le) → (at1 = at0 → cur = tx) → (n = at1 - at0) → wj X d jm262 (4, L, [], rV c0 c1 Gx Ax T) (fun o V_q => ∃ (G_q : Nat → Int) (A_q : Nat → Nat → Int) (at2 : Int) (tk2 : Int), V_q = rV c0 c1 G_q A_q T ∧ o = .inl none ∧ Wk G_q A_q ∧ Fr [10, 11, 13] [] G A G_q A_q ∧ G_q 10 = at2 ∧ G_q 11 = tk2 ∧ (at0 < at2) ∧ (at2 ≤ le) ∧ (1 ≤ tk2) ∧ True) := by
    intro m
    induction m using Nat.strongRecOn with
    | ind m ih4 =>
      intro L Gx Ax n at1 cur v hm gL_0 gL_1 gL_2 hWx hFx ex_at1 ex_cur rx_n iv_0 iv_1 iv_2
      have b_at1 : (0 : Int) ≤ at1 ∧ at1 ≤ 3002 := ex_at1 ▸ hWx.1 10
      refine jx_ld (pc_q := 5) (l_q := L) (st_q := [.ref 66]) rfl (jl_aloadn gL_0) ?_
      refine jx_ld (pc_q := 6) (l_q := L) (st_q := [.ref 66, .ref 66]) rfl (jl_aloadn gL_0) ?_
      refine jr_get (pc_q := 9) (i := 10) (v := .int (i32 (at1))) rfl rfl (by decide) (rFv_eq (by decide) (show Gx 10 = at1 from (ex_at1))) rfl ?_
      refine jx_vr (pc_q := 12) (as := [.int (i32 (at1))]) (st := []) rfl rfl rfl rfl ⟨rfl, rfl, Nat.le_of_ble_eq_true rfl⟩ rfl rfl (c_sign (dd := d) (hd := by omega) (hW := hWx) (k := at1) (ln := ln) (e_ln := show Gx 9 = ln from ((hFx.1 9 rfl).trans (e_ln))) (le := le) (e_le := show Ax 4 (ln).toNat = le from (congrFun (hFx.2 4 rfl) _).trans (e_le)) (tx := cur) (e_tx := show Ax 0 (at1).toNat = cur from (ex_cur))  (h_k := ⟨(Int.le_trans (by decide : (-2147483648 : Int) ≤ 0) b_at1.1), (Int.le_trans b_at1.2 (by decide : (3002 : Int) ≤ 2147483647))⟩)  (p_0 := by omega)) (fun o V_q hq => ?_)
      obtain ⟨r1, rfl, rfl, b2, q3⟩ := hq
      refine .inr ⟨_, rfl, ?_⟩
      rcases q3 with ⟨a4, a5⟩ | ⟨a6, a7⟩
      · have _q : True := trivial
        refine jx_st (pc_q := 15) (as := [.int (i32 (r1))]) (st := []) rfl rfl ⟨rfl, Nat.le_of_ble_eq_true rfl⟩ rfl rfl rfl (c_isBig (dd := d) (hd := by omega) (v := r1)   (h_v := ⟨(Int.le_trans (by decide : (-2147483648 : Int) ≤ -2147483648) b2.1), (Int.le_trans b2.2 (by decide : (2147483647 : Int) ≤ 2147483647))⟩)  ) (fun o V_q hq => ?_)
        obtain ⟨r8, rfl, rfl, b9, q10⟩ := hq
        refine .inr ⟨_, rfl, ?_⟩
        rcases q10 with ⟨rfl, a11, a12⟩ | ⟨rfl, a13⟩
        · have _q : True := trivial
          refine jx_if_eq (pc_q := 18) (tg := 66) rfl rfl rfl (by decide) (by decide) (fun h14 => ?_) (fun h14 => ?_)
          · have _q := h14
            exact absurd h14 (by omega)
          · have _q := h14
            refine jx_ld (pc_q := 19) (l_q := L) (st_q := [.int (i32 (n))]) rfl (jl_iloadn gL_1) ?_
            refine jx_ar (pc_q := 21) (st_q := [.int (i32 (12)), .int (i32 (n))]) rfl rfl rfl rfl ?_
            refine jx_icmp_ge (pc_q := 24) (tg := 48) rfl rfl rfl (Int.le_trans (by decide : (-2147483648 : Int) ≤ -2147483648) rx_n.1) (Int.le_trans rx_n.2 (by decide : (2147483647 : Int) ≤ 2147483647)) (by decide) (by decide) (fun h15 => ?_) (fun h15 => ?_)
            · have _q := h15
              refine jx_ld (pc_q := 49) (l_q := L) (st_q := [.long (v)]) rfl (jl_lloadn gL_2) ?_
              refine jx_ld (pc_q := 50) (l_q := jSto2 L 2 (.long (v))) (st_q := []) rfl rfl ?_
              obtain ⟨L16, eL16⟩ : ∃ q, q = jSto2 L 2 (.long (v)) := ⟨_, rfl⟩
              rw [← eL16]
              have gL16_0 : jGet L16 0 = some (.ref 66) := eL16 ▸ jg_ne2 (by decide) (by decide) gL_0 (.inl rfl)
              have gL16_1 : jGet L16 1 = some (.int (i32 (n))) := eL16 ▸ jg_ne2 (by decide) (by decide) gL_1 (.inl rfl)
              have gL16_2 : jGet L16 2 = some (.long (v)) := eL16 ▸ jg_eq2
              refine jx_inc (pc_q := 53) (l_q := jSto1 L16 1 (.int (i32 ((n + (1)))))) (x := n) rfl gL16_1 (by decide) rfl rfl ?_
              obtain ⟨L17, eL17⟩ : ∃ q, q = jSto1 L16 1 (.int (i32 ((n + (1))))) := ⟨_, rfl⟩
              rw [← eL17]
              have gL17_0 : jGet L17 0 = some (.ref 66) := eL17 ▸ jg_ne (by decide) gL16_0 rfl
              have gL17_2 : jGet L17 2 = some (.long (v)) := eL17 ▸ jg_nel (by decide) gL16_2 (by decide)
              have gL17_1 : jGet L17 1 = some (.int (i32 ((n + (1))))) := eL17 ▸ jg_eq
              refine jx_ld (pc_q := 54) (l_q := L17) (st_q := [.ref 66]) rfl (jl_aloadn gL17_0) ?_
              refine jx_ar (pc_q := 55) (st_q := [.ref 66, .ref 66]) rfl rfl rfl rfl ?_
              refine jr_get (pc_q := 58) (i := 10) (v := .int (i32 (at1))) rfl rfl (by decide) (rFv_eq (by decide) (show Gx 10 = at1 from (ex_at1))) rfl ?_
              refine jx_ar (pc_q := 59) (st_q := [.int (i32 (1)), .int (i32 (at1)), .ref 66]) rfl rfl rfl rfl ?_
              refine jx_add (pc_q := 60) rfl rfl ?_
              refine jr_put (pc_q := 63) (i := 10) (z := (at1 + 1)) rfl rfl (by decide) rfl rfl rfl rfl rfl rfl ?_
              have hW18 : Wk (uG Gx 10 ((at1 + 1))) Ax := Wk_g hWx (show (0 : Int) ≤ (at1 + 1) by omega) (show (at1 + 1) ≤ (3002 : Int) by omega)
              have hF19 := Fr_g (z := (at1 + 1)) (i := 10) hFx (by decide)
              refine jx_go (tg := 4) rfl rfl ?_
              exact ih4 _ (by omega) L17 (uG Gx 10 ((at1 + 1))) Ax ((n + (1))) ((at1 + 1)) (A 0 ((at1 + 1)).toNat) (v) rfl gL17_0 gL17_1 gL17_2 hW18 hF19 (rfl) ((congrFun (hFx.2 0 rfl) _)) (by omega) (by omega) (by omega) (by omega)
            · have _q := h15
              refine jx_hp (pc_q := 27) (st_q := [.long (27)]) rfl rfl rfl rfl rfl rfl ?_
              refine jx_ld (pc_q := 28) (l_q := L) (st_q := [.long (v), .long (27)]) rfl (jl_lloadn gL_2) ?_
              refine jx_ar (pc_q := 29) (st_q := .long ((27 : Int64) * (v)) :: []) rfl rfl rfl rfl ?_
              obtain ⟨y20, ey20⟩ : ∃ q : Int64, q = (27 : Int64) * (v) := ⟨_, rfl⟩
              rw [← ey20]
              refine jx_ld (pc_q := 30) (l_q := L) (st_q := [.ref 66, .long (y20)]) rfl (jl_aloadn gL_0) ?_
              refine jx_ld (pc_q := 31) (l_q := L) (st_q := [.ref 66, .ref 66, .long (y20)]) rfl (jl_aloadn gL_0) ?_
              refine jr_get (pc_q := 34) (i := 10) (v := .int (i32 (at1))) rfl rfl (by decide) (rFv_eq (by decide) (show Gx 10 = at1 from (ex_at1))) rfl ?_
              refine jx_vr (pc_q := 37) (as := [.int (i32 (at1))]) (st := [.long (y20)]) rfl rfl rfl rfl ⟨rfl, rfl, Nat.le_of_ble_eq_true rfl⟩ rfl rfl (c_sign (dd := d) (hd := by omega) (hW := hWx) (k := at1) (ln := ln) (e_ln := show Gx 9 = ln from ((hFx.1 9 rfl).trans (e_ln))) (le := le) (e_le := show Ax 4 (ln).toNat = le from (congrFun (hFx.2 4 rfl) _).trans (e_le)) (tx := cur) (e_tx := show Ax 0 (at1).toNat = cur from (ex_cur))  (h_k := ⟨(Int.le_trans (by decide : (-2147483648 : Int) ≤ 0) b_at1.1), (Int.le_trans b_at1.2 (by decide : (3002 : Int) ≤ 2147483647))⟩)  (p_0 := by omega)) (fun o V_q hq => ?_)
              obtain ⟨r21, rfl, rfl, b22, q23⟩ := hq
              refine .inr ⟨_, rfl, ?_⟩
              rcases q23 with ⟨a24, a25⟩ | ⟨a26, a27⟩
              · have _q : True := trivial
                refine jx_ar (pc_q := 38) (st_q := .long ((i32 (r21)).toInt64) :: [.long (y20)]) rfl rfl rfl rfl ?_
                obtain ⟨y28, ey28⟩ : ∃ q : Int64, q = (i32 (r21)).toInt64 := ⟨_, rfl⟩
                rw [← ey28]
                refine jx_ar (pc_q := 39) (st_q := .long ((y20 : Int64) + (y28)) :: []) rfl rfl rfl rfl ?_
                obtain ⟨y29, ey29⟩ : ∃ q : Int64, q = (y20 : Int64) + (y28) := ⟨_, rfl⟩
                rw [← ey29]
                refine jx_hp (pc_q := 42) (st_q := [.long (65), .long (y29)]) rfl rfl rfl rfl rfl rfl ?_
                refine jx_ar (pc_q := 43) (st_q := .long ((y29 : Int64) - (65)) :: []) rfl rfl rfl rfl ?_
                obtain ⟨y30, ey30⟩ : ∃ q : Int64, q = (y29 : Int64) - (65) := ⟨_, rfl⟩
                rw [← ey30]
                refine jx_ar (pc_q := 44) (st_q := [.long (Int64.ofNat 1), .long (y30)]) rfl rfl rfl rfl ?_
                refine jx_ar (pc_q := 45) (st_q := .long ((y30 : Int64) + (Int64.ofNat 1)) :: []) rfl rfl rfl rfl ?_
                obtain ⟨y31, ey31⟩ : ∃ q : Int64, q = (y30 : Int64) + (Int64.ofNat 1) := ⟨_, rfl⟩
                rw [← ey31]
                refine jx_go (tg := 49) rfl rfl ?_
                refine jx_ld (pc_q := 50) (l_q := jSto2 L 2 (.long (y31))) (st_q := []) rfl rfl ?_
                obtain ⟨L32, eL32⟩ : ∃ q, q = jSto2 L 2 (.long (y31)) := ⟨_, rfl⟩
                rw [← eL32]
                have gL32_0 : jGet L32 0 = some (.ref 66) := eL32 ▸ jg_ne2 (by decide) (by decide) gL_0 (.inl rfl)
                have gL32_1 : jGet L32 1 = some (.int (i32 (n))) := eL32 ▸ jg_ne2 (by decide) (by decide) gL_1 (.inl rfl)
                have gL32_2 : jGet L32 2 = some (.long (y31)) := eL32 ▸ jg_eq2
                refine jx_inc (pc_q := 53) (l_q := jSto1 L32 1 (.int (i32 ((n + (1)))))) (x := n) rfl gL32_1 (by decide) rfl rfl ?_
                obtain ⟨L33, eL33⟩ : ∃ q, q = jSto1 L32 1 (.int (i32 ((n + (1))))) := ⟨_, rfl⟩
                rw [← eL33]
                have gL33_0 : jGet L33 0 = some (.ref 66) := eL33 ▸ jg_ne (by decide) gL32_0 rfl
                have gL33_2 : jGet L33 2 = some (.long (y31)) := eL33 ▸ jg_nel (by decide) gL32_2 (by decide)
                have gL33_1 : jGet L33 1 = some (.int (i32 ((n + (1))))) := eL33 ▸ jg_eq
                refine jx_ld (pc_q := 54) (l_q := L33) (st_q := [.ref 66]) rfl (jl_aloadn gL33_0) ?_
                refine jx_ar (pc_q := 55) (st_q := [.ref 66, .ref 66]) rfl rfl rfl rfl ?_
                refine jr_get (pc_q := 58) (i := 10) (v := .int (i32 (at1))) rfl rfl (by decide) (rFv_eq (by decide) (show Gx 10 = at1 from (ex_at1))) rfl ?_
                refine jx_ar (pc_q := 59) (st_q := [.int (i32 (1)), .int (i32 (at1)), .ref 66]) rfl rfl rfl rfl ?_
                refine jx_add (pc_q := 60) rfl rfl ?_
                refine jr_put (pc_q := 63) (i := 10) (z := (at1 + 1)) rfl rfl (by decide) rfl rfl rfl rfl rfl rfl ?_
                have hW34 : Wk (uG Gx 10 ((at1 + 1))) Ax := Wk_g hWx (show (0 : Int) ≤ (at1 + 1) by omega) (show (at1 + 1) ≤ (3002 : Int) by omega)
                have hF35 := Fr_g (z := (at1 + 1)) (i := 10) hFx (by decide)
                refine jx_go (tg := 4) rfl rfl ?_
                exact ih4 _ (by omega) L33 (uG Gx 10 ((at1 + 1))) Ax ((n + (1))) ((at1 + 1)) (A 0 ((at1 + 1)).toNat) (y31) rfl gL33_0 gL33_1 gL33_2 hW34 hF35 (rfl) ((congrFun (hFx.2 0 rfl) _)) (by omega) (by omega) (by omega) (by omega)
              · have _q : True := trivial
                refine jx_ar (pc_q := 38) (st_q := .long ((i32 (r21)).toInt64) :: [.long (y20)]) rfl rfl rfl rfl ?_
                obtain ⟨y36, ey36⟩ : ∃ q : Int64, q = (i32 (r21)).toInt64 := ⟨_, rfl⟩
                rw [← ey36]
                refine jx_ar (pc_q := 39) (st_q := .long ((y20 : Int64) + (y36)) :: []) rfl rfl rfl rfl ?_
                obtain ⟨y37, ey37⟩ : ∃ q : Int64, q = (y20 : Int64) + (y36) := ⟨_, rfl⟩
                rw [← ey37]
                refine jx_hp (pc_q := 42) (st_q := [.long (65), .long (y37)]) rfl rfl rfl rfl rfl rfl ?_
                refine jx_ar (pc_q := 43) (st_q := .long ((y37 : Int64) - (65)) :: []) rfl rfl rfl rfl ?_
                obtain ⟨y38, ey38⟩ : ∃ q : Int64, q = (y37 : Int64) - (65) := ⟨_, rfl⟩
                rw [← ey38]
                refine jx_ar (pc_q := 44) (st_q := [.long (Int64.ofNat 1), .long (y38)]) rfl rfl rfl rfl ?_
                refine jx_ar (pc_q := 45) (st_q := .long ((y38 : Int64) + (Int64.ofNat 1)) :: []) rfl rfl rfl rfl ?_
                obtain ⟨y39, ey39⟩ : ∃ q : Int64, q = (y38 : Int64) + (Int64.ofNat 1) := ⟨_, rfl⟩
                rw [← ey39]
                refine jx_go (tg := 49) rfl rfl ?_
                refine jx_ld (pc_q := 50) (l_q := jSto2 L 2 (.long (y39))) (st_q := []) rfl rfl ?_
                obtain ⟨L40, eL40⟩ : ∃ q, q = jSto2 L 2 (.long (y39)) := ⟨_, rfl⟩
                rw [← eL40]
                have gL40_0 : jGet L40 0 = some (.ref 66) := eL40 ▸ jg_ne2 (by decide) (by decide) gL_0 (.inl rfl)
                have gL40_1 : jGet L40 1 = some (.int (i32 (n))) := eL40 ▸ jg_ne2 (by decide) (by decide) gL_1 (.inl rfl)
                have gL40_2 : jGet L40 2 = some (.long (y39)) := eL40 ▸ jg_eq2
                refine jx_inc (pc_q := 53) (l_q := jSto1 L40 1 (.int (i32 ((n + (1)))))) (x := n) rfl gL40_1 (by decide) rfl rfl ?_
                obtain ⟨L41, eL41⟩ : ∃ q, q = jSto1 L40 1 (.int (i32 ((n + (1))))) := ⟨_, rfl⟩
                rw [← eL41]
                have gL41_0 : jGet L41 0 = some (.ref 66) := eL41 ▸ jg_ne (by decide) gL40_0 rfl
                have gL41_2 : jGet L41 2 = some (.long (y39)) := eL41 ▸ jg_nel (by decide) gL40_2 (by decide)
                have gL41_1 : jGet L41 1 = some (.int (i32 ((n + (1))))) := eL41 ▸ jg_eq
                refine jx_ld (pc_q := 54) (l_q := L41) (st_q := [.ref 66]) rfl (jl_aloadn gL41_0) ?_
                refine jx_ar (pc_q := 55) (st_q := [.ref 66, .ref 66]) rfl rfl rfl rfl ?_
                refine jr_get (pc_q := 58) (i := 10) (v := .int (i32 (at1))) rfl rfl (by decide) (rFv_eq (by decide) (show Gx 10 = at1 from (ex_at1))) rfl ?_
                refine jx_ar (pc_q := 59) (st_q := [.int (i32 (1)), .int (i32 (at1)), .ref 66]) rfl rfl rfl rfl ?_
                refine jx_add (pc_q := 60) rfl rfl ?_
                refine jr_put (pc_q := 63) (i := 10) (z := (at1 + 1)) rfl rfl (by decide) rfl rfl rfl rfl rfl rfl ?_
                have hW42 : Wk (uG Gx 10 ((at1 + 1))) Ax := Wk_g hWx (show (0 : Int) ≤ (at1 + 1) by omega) (show (at1 + 1) ≤ (3002 : Int) by omega)
                have hF43 := Fr_g (z := (at1 + 1)) (i := 10) hFx (by decide)
                refine jx_go (tg := 4) rfl rfl ?_
                exact ih4 _ (by omega) L41 (uG Gx 10 ((at1 + 1))) Ax ((n + (1))) ((at1 + 1)) (A 0 ((at1 + 1)).toNat) (y39) rfl gL41_0 gL41_1 gL41_2 hW42 hF43 (rfl) ((congrFun (hFx.2 0 rfl) _)) (by omega) (by omega) (by omega) (by omega)
        · have _q : True := trivial
          refine jx_if_eq (pc_q := 18) (tg := 66) rfl rfl rfl (by decide) (by decide) (fun h44 => ?_) (fun h44 => ?_)
          · have _q := h44
            refine jx_ld (pc_q := 67) (l_q := L) (st_q := [.ref 66]) rfl (jl_aloadn gL_0) ?_
            refine jx_ld (pc_q := 68) (l_q := L) (st_q := [.int (i32 (n)), .ref 66]) rfl (jl_iloadn gL_1) ?_
            refine jx_ar (pc_q := 70) (st_q := [.int (i32 (12)), .int (i32 (n)), .ref 66]) rfl rfl rfl rfl ?_
            refine jx_icmp_le (pc_q := 73) (tg := 77) rfl rfl rfl (Int.le_trans (by decide : (-2147483648 : Int) ≤ -2147483648) rx_n.1) (Int.le_trans rx_n.2 (by decide : (2147483647 : Int) ≤ 2147483647)) (by decide) (by decide) (fun h45 => ?_) (fun h45 => ?_)
            · have _q := h45
              refine jx_ld (pc_q := 78) (l_q := L) (st_q := [.ref 66, .ref 66]) rfl (jl_aloadn gL_0) ?_
              refine jx_ld (pc_q := 79) (l_q := L) (st_q := [.long (v), .ref 66, .ref 66]) rfl (jl_lloadn gL_2) ?_
              refine jx_vr (pc_q := 82) (as := [.long (v)]) (st := [.ref 66]) rfl rfl rfl rfl ⟨rfl, rfl, Nat.le_of_ble_eq_true rfl⟩ rfl rfl (c_keyOf (dd := d) (hd := by omega) (hW := hWx) (v := v)     ) (fun o V_q hq => ?_)
              obtain ⟨r46, rfl, rfl, b47, -⟩ := hq
              refine .inr ⟨_, rfl, ?_⟩
              refine jr_put (pc_q := 85) (i := 13) (z := r46) rfl rfl (by decide) rfl rfl rfl rfl rfl rfl ?_
              have hW49 : Wk (uG Gx 13 (r46)) Ax := Wk_g hWx (show (-2147483648 : Int) ≤ r46 by omega) (show r46 ≤ (2147483647 : Int) by omega)
              have hF50 := Fr_g (z := r46) (i := 13) hFx (by decide)
              refine jx_ld (pc_q := 86) (l_q := L) (st_q := [.ref 66]) rfl (jl_aloadn gL_0) ?_
              refine jx_ld (pc_q := 87) (l_q := L) (st_q := [.ref 66, .ref 66]) rfl (jl_aloadn gL_0) ?_
              refine jr_get (pc_q := 90) (i := 13) (v := .int (i32 (r46))) rfl rfl (by decide) rfl rfl ?_
              refine jx_if_ne (pc_q := 93) (tg := 97) rfl rfl rfl (Int.le_trans (by decide : (-2147483648 : Int) ≤ -2147483648) b47.1) (Int.le_trans b47.2 (by decide : (2147483647 : Int) ≤ 2147483647)) (fun h51 => ?_) (fun h51 => ?_)
              · have _q := h51
                refine jx_ar (pc_q := 98) (st_q := [.int (i32 (2)), .ref 66]) rfl rfl rfl rfl ?_
                refine jr_put (pc_q := 101) (i := 11) (z := 2) rfl rfl (by decide) rfl rfl rfl rfl rfl rfl ?_
                have hW52 : Wk (uG (uG Gx 13 (r46)) 11 (2)) Ax := Wk_g hW49 (show (0 : Int) ≤ 2 by omega) (show 2 ≤ (5 : Int) by omega)
                have hF53 := Fr_g (z := 2) (i := 11) hF50 (by decide)
                refine jx_rt (v := none) rfl rfl rfl rfl rfl rfl ?_
                exact ⟨_, _, at1, 2, rfl, rfl, hW52, hF53, (ex_at1), rfl, by omega, by omega, by omega, trivial⟩
              · have _q := h51
                refine jx_ar (pc_q := 94) (st_q := [.int (i32 (5)), .ref 66]) rfl rfl rfl rfl ?_
                refine jx_go (tg := 98) rfl rfl ?_
                refine jr_put (pc_q := 101) (i := 11) (z := 5) rfl rfl (by decide) rfl rfl rfl rfl rfl rfl ?_
                have hW54 : Wk (uG (uG Gx 13 (r46)) 11 (5)) Ax := Wk_g hW49 (show (0 : Int) ≤ 5 by omega) (show 5 ≤ (5 : Int) by omega)
                have hF55 := Fr_g (z := 5) (i := 11) hF50 (by decide)
                refine jx_rt (v := none) rfl rfl rfl rfl rfl rfl ?_
                exact ⟨_, _, at1, 5, rfl, rfl, hW54, hF55, (ex_at1), rfl, by omega, by omega, by omega, trivial⟩
            · have _q := h45
              refine jx_ar (pc_q := 74) (st_q := [.int (i32 (0)), .ref 66]) rfl rfl rfl rfl ?_
              refine jx_go (tg := 82) rfl rfl ?_
              refine jr_put (pc_q := 85) (i := 13) (z := 0) rfl rfl (by decide) rfl rfl rfl rfl rfl rfl ?_
              have hW56 : Wk (uG Gx 13 (0)) Ax := Wk_g hWx (show (-2147483648 : Int) ≤ 0 by omega) (show 0 ≤ (2147483647 : Int) by omega)
              have hF57 := Fr_g (z := 0) (i := 13) hFx (by decide)
              refine jx_ld (pc_q := 86) (l_q := L) (st_q := [.ref 66]) rfl (jl_aloadn gL_0) ?_
              refine jx_ld (pc_q := 87) (l_q := L) (st_q := [.ref 66, .ref 66]) rfl (jl_aloadn gL_0) ?_
              refine jr_get (pc_q := 90) (i := 13) (v := .int (i32 (0))) rfl rfl (by decide) rfl rfl ?_
              refine jx_if_ne (pc_q := 93) (tg := 97) rfl rfl rfl (by decide) (by decide) (fun h58 => ?_) (fun h58 => ?_)
              · have _q := h58
                exact absurd h58 (by omega)
              · have _q := h58
                refine jx_ar (pc_q := 94) (st_q := [.int (i32 (5)), .ref 66]) rfl rfl rfl rfl ?_
                refine jx_go (tg := 98) rfl rfl ?_
                refine jr_put (pc_q := 101) (i := 11) (z := 5) rfl rfl (by decide) rfl rfl rfl rfl rfl rfl ?_
                have hW59 : Wk (uG (uG Gx 13 (0)) 11 (5)) Ax := Wk_g hW56 (show (0 : Int) ≤ 5 by omega) (show 5 ≤ (5 : Int) by omega)
                have hF60 := Fr_g (z := 5) (i := 11) hF57 (by decide)
                refine jx_rt (v := none) rfl rfl rfl rfl rfl rfl ?_
                exact ⟨_, _, at1, 5, rfl, rfl, hW59, hF60, (ex_at1), rfl, by omega, by omega, by omega, trivial⟩
          · have _q := h44
            exact absurd h44 (by omega)
      · have _q : True := trivial
        refine jx_st (pc_q := 15) (as := [.int (i32 (r1))]) (st := []) rfl rfl ⟨rfl, Nat.le_of_ble_eq_true rfl⟩ rfl rfl rfl (c_isBig (dd := d) (hd := by omega) (v := r1)   (h_v := ⟨(Int.le_trans (by decide : (-2147483648 : Int) ≤ -2147483648) b2.1), (Int.le_trans b2.2 (by decide : (2147483647 : Int) ≤ 2147483647))⟩)  ) (fun o V_q hq => ?_)
        obtain ⟨r61, rfl, rfl, b62, q63⟩ := hq
        refine .inr ⟨_, rfl, ?_⟩
        rcases q63 with ⟨rfl, a64, a65⟩ | ⟨rfl, a66⟩
        · have _q : True := trivial
          refine jx_if_eq (pc_q := 18) (tg := 66) rfl rfl rfl (by decide) (by decide) (fun h67 => ?_) (fun h67 => ?_)
          · have _q := h67
            exact absurd h67 (by omega)
          · have _q := h67
            refine jx_ld (pc_q := 19) (l_q := L) (st_q := [.int (i32 (n))]) rfl (jl_iloadn gL_1) ?_
            refine jx_ar (pc_q := 21) (st_q := [.int (i32 (12)), .int (i32 (n))]) rfl rfl rfl rfl ?_
            refine jx_icmp_ge (pc_q := 24) (tg := 48) rfl rfl rfl (Int.le_trans (by decide : (-2147483648 : Int) ≤ -2147483648) rx_n.1) (Int.le_trans rx_n.2 (by decide : (2147483647 : Int) ≤ 2147483647)) (by decide) (by decide) (fun h68 => ?_) (fun h68 => ?_)
            · have _q := h68
              refine jx_ld (pc_q := 49) (l_q := L) (st_q := [.long (v)]) rfl (jl_lloadn gL_2) ?_
              refine jx_ld (pc_q := 50) (l_q := jSto2 L 2 (.long (v))) (st_q := []) rfl rfl ?_
              obtain ⟨L69, eL69⟩ : ∃ q, q = jSto2 L 2 (.long (v)) := ⟨_, rfl⟩
              rw [← eL69]
              have gL69_0 : jGet L69 0 = some (.ref 66) := eL69 ▸ jg_ne2 (by decide) (by decide) gL_0 (.inl rfl)
              have gL69_1 : jGet L69 1 = some (.int (i32 (n))) := eL69 ▸ jg_ne2 (by decide) (by decide) gL_1 (.inl rfl)
              have gL69_2 : jGet L69 2 = some (.long (v)) := eL69 ▸ jg_eq2
              refine jx_inc (pc_q := 53) (l_q := jSto1 L69 1 (.int (i32 ((n + (1)))))) (x := n) rfl gL69_1 (by decide) rfl rfl ?_
              obtain ⟨L70, eL70⟩ : ∃ q, q = jSto1 L69 1 (.int (i32 ((n + (1))))) := ⟨_, rfl⟩
              rw [← eL70]
              have gL70_0 : jGet L70 0 = some (.ref 66) := eL70 ▸ jg_ne (by decide) gL69_0 rfl
              have gL70_2 : jGet L70 2 = some (.long (v)) := eL70 ▸ jg_nel (by decide) gL69_2 (by decide)
              have gL70_1 : jGet L70 1 = some (.int (i32 ((n + (1))))) := eL70 ▸ jg_eq
              refine jx_ld (pc_q := 54) (l_q := L70) (st_q := [.ref 66]) rfl (jl_aloadn gL70_0) ?_
              refine jx_ar (pc_q := 55) (st_q := [.ref 66, .ref 66]) rfl rfl rfl rfl ?_
              refine jr_get (pc_q := 58) (i := 10) (v := .int (i32 (at1))) rfl rfl (by decide) (rFv_eq (by decide) (show Gx 10 = at1 from (ex_at1))) rfl ?_
              refine jx_ar (pc_q := 59) (st_q := [.int (i32 (1)), .int (i32 (at1)), .ref 66]) rfl rfl rfl rfl ?_
              refine jx_add (pc_q := 60) rfl rfl ?_
              refine jr_put (pc_q := 63) (i := 10) (z := (at1 + 1)) rfl rfl (by decide) rfl rfl rfl rfl rfl rfl ?_
              have hW71 : Wk (uG Gx 10 ((at1 + 1))) Ax := Wk_g hWx (show (0 : Int) ≤ (at1 + 1) by omega) (show (at1 + 1) ≤ (3002 : Int) by omega)
              have hF72 := Fr_g (z := (at1 + 1)) (i := 10) hFx (by decide)
              refine jx_go (tg := 4) rfl rfl ?_
              exact ih4 _ (by omega) L70 (uG Gx 10 ((at1 + 1))) Ax ((n + (1))) ((at1 + 1)) (A 0 ((at1 + 1)).toNat) (v) rfl gL70_0 gL70_1 gL70_2 hW71 hF72 (rfl) ((congrFun (hFx.2 0 rfl) _)) (by omega) (by omega) (by omega) (by omega)
            · have _q := h68
              refine jx_hp (pc_q := 27) (st_q := [.long (27)]) rfl rfl rfl rfl rfl rfl ?_
              refine jx_ld (pc_q := 28) (l_q := L) (st_q := [.long (v), .long (27)]) rfl (jl_lloadn gL_2) ?_
              refine jx_ar (pc_q := 29) (st_q := .long ((27 : Int64) * (v)) :: []) rfl rfl rfl rfl ?_
              obtain ⟨y73, ey73⟩ : ∃ q : Int64, q = (27 : Int64) * (v) := ⟨_, rfl⟩
              rw [← ey73]
              refine jx_ld (pc_q := 30) (l_q := L) (st_q := [.ref 66, .long (y73)]) rfl (jl_aloadn gL_0) ?_
              refine jx_ld (pc_q := 31) (l_q := L) (st_q := [.ref 66, .ref 66, .long (y73)]) rfl (jl_aloadn gL_0) ?_
              refine jr_get (pc_q := 34) (i := 10) (v := .int (i32 (at1))) rfl rfl (by decide) (rFv_eq (by decide) (show Gx 10 = at1 from (ex_at1))) rfl ?_
              refine jx_vr (pc_q := 37) (as := [.int (i32 (at1))]) (st := [.long (y73)]) rfl rfl rfl rfl ⟨rfl, rfl, Nat.le_of_ble_eq_true rfl⟩ rfl rfl (c_sign (dd := d) (hd := by omega) (hW := hWx) (k := at1) (ln := ln) (e_ln := show Gx 9 = ln from ((hFx.1 9 rfl).trans (e_ln))) (le := le) (e_le := show Ax 4 (ln).toNat = le from (congrFun (hFx.2 4 rfl) _).trans (e_le)) (tx := cur) (e_tx := show Ax 0 (at1).toNat = cur from (ex_cur))  (h_k := ⟨(Int.le_trans (by decide : (-2147483648 : Int) ≤ 0) b_at1.1), (Int.le_trans b_at1.2 (by decide : (3002 : Int) ≤ 2147483647))⟩)  (p_0 := by omega)) (fun o V_q hq => ?_)
              obtain ⟨r74, rfl, rfl, b75, q76⟩ := hq
              refine .inr ⟨_, rfl, ?_⟩
              rcases q76 with ⟨a77, a78⟩ | ⟨a79, a80⟩
              · have _q : True := trivial
                refine jx_ar (pc_q := 38) (st_q := .long ((i32 (r74)).toInt64) :: [.long (y73)]) rfl rfl rfl rfl ?_
                obtain ⟨y81, ey81⟩ : ∃ q : Int64, q = (i32 (r74)).toInt64 := ⟨_, rfl⟩
                rw [← ey81]
                refine jx_ar (pc_q := 39) (st_q := .long ((y73 : Int64) + (y81)) :: []) rfl rfl rfl rfl ?_
                obtain ⟨y82, ey82⟩ : ∃ q : Int64, q = (y73 : Int64) + (y81) := ⟨_, rfl⟩
                rw [← ey82]
                refine jx_hp (pc_q := 42) (st_q := [.long (65), .long (y82)]) rfl rfl rfl rfl rfl rfl ?_
                refine jx_ar (pc_q := 43) (st_q := .long ((y82 : Int64) - (65)) :: []) rfl rfl rfl rfl ?_
                obtain ⟨y83, ey83⟩ : ∃ q : Int64, q = (y82 : Int64) - (65) := ⟨_, rfl⟩
                rw [← ey83]
                refine jx_ar (pc_q := 44) (st_q := [.long (Int64.ofNat 1), .long (y83)]) rfl rfl rfl rfl ?_
                refine jx_ar (pc_q := 45) (st_q := .long ((y83 : Int64) + (Int64.ofNat 1)) :: []) rfl rfl rfl rfl ?_
                obtain ⟨y84, ey84⟩ : ∃ q : Int64, q = (y83 : Int64) + (Int64.ofNat 1) := ⟨_, rfl⟩
                rw [← ey84]
                refine jx_go (tg := 49) rfl rfl ?_
                refine jx_ld (pc_q := 50) (l_q := jSto2 L 2 (.long (y84))) (st_q := []) rfl rfl ?_
                obtain ⟨L85, eL85⟩ : ∃ q, q = jSto2 L 2 (.long (y84)) := ⟨_, rfl⟩
                rw [← eL85]
                have gL85_0 : jGet L85 0 = some (.ref 66) := eL85 ▸ jg_ne2 (by decide) (by decide) gL_0 (.inl rfl)
                have gL85_1 : jGet L85 1 = some (.int (i32 (n))) := eL85 ▸ jg_ne2 (by decide) (by decide) gL_1 (.inl rfl)
                have gL85_2 : jGet L85 2 = some (.long (y84)) := eL85 ▸ jg_eq2
                refine jx_inc (pc_q := 53) (l_q := jSto1 L85 1 (.int (i32 ((n + (1)))))) (x := n) rfl gL85_1 (by decide) rfl rfl ?_
                obtain ⟨L86, eL86⟩ : ∃ q, q = jSto1 L85 1 (.int (i32 ((n + (1))))) := ⟨_, rfl⟩
                rw [← eL86]
                have gL86_0 : jGet L86 0 = some (.ref 66) := eL86 ▸ jg_ne (by decide) gL85_0 rfl
                have gL86_2 : jGet L86 2 = some (.long (y84)) := eL86 ▸ jg_nel (by decide) gL85_2 (by decide)
                have gL86_1 : jGet L86 1 = some (.int (i32 ((n + (1))))) := eL86 ▸ jg_eq
                refine jx_ld (pc_q := 54) (l_q := L86) (st_q := [.ref 66]) rfl (jl_aloadn gL86_0) ?_
                refine jx_ar (pc_q := 55) (st_q := [.ref 66, .ref 66]) rfl rfl rfl rfl ?_
                refine jr_get (pc_q := 58) (i := 10) (v := .int (i32 (at1))) rfl rfl (by decide) (rFv_eq (by decide) (show Gx 10 = at1 from (ex_at1))) rfl ?_
                refine jx_ar (pc_q := 59) (st_q := [.int (i32 (1)), .int (i32 (at1)), .ref 66]) rfl rfl rfl rfl ?_
                refine jx_add (pc_q := 60) rfl rfl ?_
                refine jr_put (pc_q := 63) (i := 10) (z := (at1 + 1)) rfl rfl (by decide) rfl rfl rfl rfl rfl rfl ?_
                have hW87 : Wk (uG Gx 10 ((at1 + 1))) Ax := Wk_g hWx (show (0 : Int) ≤ (at1 + 1) by omega) (show (at1 + 1) ≤ (3002 : Int) by omega)
                have hF88 := Fr_g (z := (at1 + 1)) (i := 10) hFx (by decide)
                refine jx_go (tg := 4) rfl rfl ?_
                exact ih4 _ (by omega) L86 (uG Gx 10 ((at1 + 1))) Ax ((n + (1))) ((at1 + 1)) (A 0 ((at1 + 1)).toNat) (y84) rfl gL86_0 gL86_1 gL86_2 hW87 hF88 (rfl) ((congrFun (hFx.2 0 rfl) _)) (by omega) (by omega) (by omega) (by omega)
              · have _q : True := trivial
                refine jx_ar (pc_q := 38) (st_q := .long ((i32 (r74)).toInt64) :: [.long (y73)]) rfl rfl rfl rfl ?_
                obtain ⟨y89, ey89⟩ : ∃ q : Int64, q = (i32 (r74)).toInt64 := ⟨_, rfl⟩
                rw [← ey89]
                refine jx_ar (pc_q := 39) (st_q := .long ((y73 : Int64) + (y89)) :: []) rfl rfl rfl rfl ?_
                obtain ⟨y90, ey90⟩ : ∃ q : Int64, q = (y73 : Int64) + (y89) := ⟨_, rfl⟩
                rw [← ey90]
                refine jx_hp (pc_q := 42) (st_q := [.long (65), .long (y90)]) rfl rfl rfl rfl rfl rfl ?_
                refine jx_ar (pc_q := 43) (st_q := .long ((y90 : Int64) - (65)) :: []) rfl rfl rfl rfl ?_
                obtain ⟨y91, ey91⟩ : ∃ q : Int64, q = (y90 : Int64) - (65) := ⟨_, rfl⟩
                rw [← ey91]
                refine jx_ar (pc_q := 44) (st_q := [.long (Int64.ofNat 1), .long (y91)]) rfl rfl rfl rfl ?_
                refine jx_ar (pc_q := 45) (st_q := .long ((y91 : Int64) + (Int64.ofNat 1)) :: []) rfl rfl rfl rfl ?_
                obtain ⟨y92, ey92⟩ : ∃ q : Int64, q = (y91 : Int64) + (Int64.ofNat 1) := ⟨_, rfl⟩
                rw [← ey92]
                refine jx_go (tg := 49) rfl rfl ?_
                refine jx_ld (pc_q := 50) (l_q := jSto2 L 2 (.long (y92))) (st_q := []) rfl rfl ?_
                obtain ⟨L93, eL93⟩ : ∃ q, q = jSto2 L 2 (.long (y92)) := ⟨_, rfl⟩
                rw [← eL93]
                have gL93_0 : jGet L93 0 = some (.ref 66) := eL93 ▸ jg_ne2 (by decide) (by decide) gL_0 (.inl rfl)
                have gL93_1 : jGet L93 1 = some (.int (i32 (n))) := eL93 ▸ jg_ne2 (by decide) (by decide) gL_1 (.inl rfl)
                have gL93_2 : jGet L93 2 = some (.long (y92)) := eL93 ▸ jg_eq2
                refine jx_inc (pc_q := 53) (l_q := jSto1 L93 1 (.int (i32 ((n + (1)))))) (x := n) rfl gL93_1 (by decide) rfl rfl ?_
                obtain ⟨L94, eL94⟩ : ∃ q, q = jSto1 L93 1 (.int (i32 ((n + (1))))) := ⟨_, rfl⟩
                rw [← eL94]
                have gL94_0 : jGet L94 0 = some (.ref 66) := eL94 ▸ jg_ne (by decide) gL93_0 rfl
                have gL94_2 : jGet L94 2 = some (.long (y92)) := eL94 ▸ jg_nel (by decide) gL93_2 (by decide)
                have gL94_1 : jGet L94 1 = some (.int (i32 ((n + (1))))) := eL94 ▸ jg_eq
                refine jx_ld (pc_q := 54) (l_q := L94) (st_q := [.ref 66]) rfl (jl_aloadn gL94_0) ?_
                refine jx_ar (pc_q := 55) (st_q := [.ref 66, .ref 66]) rfl rfl rfl rfl ?_
                refine jr_get (pc_q := 58) (i := 10) (v := .int (i32 (at1))) rfl rfl (by decide) (rFv_eq (by decide) (show Gx 10 = at1 from (ex_at1))) rfl ?_
                refine jx_ar (pc_q := 59) (st_q := [.int (i32 (1)), .int (i32 (at1)), .ref 66]) rfl rfl rfl rfl ?_
                refine jx_add (pc_q := 60) rfl rfl ?_
                refine jr_put (pc_q := 63) (i := 10) (z := (at1 + 1)) rfl rfl (by decide) rfl rfl rfl rfl rfl rfl ?_
                have hW95 : Wk (uG Gx 10 ((at1 + 1))) Ax := Wk_g hWx (show (0 : Int) ≤ (at1 + 1) by omega) (show (at1 + 1) ≤ (3002 : Int) by omega)
                have hF96 := Fr_g (z := (at1 + 1)) (i := 10) hFx (by decide)
                refine jx_go (tg := 4) rfl rfl ?_
                exact ih4 _ (by omega) L94 (uG Gx 10 ((at1 + 1))) Ax ((n + (1))) ((at1 + 1)) (A 0 ((at1 + 1)).toNat) (y92) rfl gL94_0 gL94_1 gL94_2 hW95 hF96 (rfl) ((congrFun (hFx.2 0 rfl) _)) (by omega) (by omega) (by omega) (by omega)
        · have _q : True := trivial
          refine jx_if_eq (pc_q := 18) (tg := 66) rfl rfl rfl (by decide) (by decide) (fun h97 => ?_) (fun h97 => ?_)
          · have _q := h97
            refine jx_ld (pc_q := 67) (l_q := L) (st_q := [.ref 66]) rfl (jl_aloadn gL_0) ?_
            refine jx_ld (pc_q := 68) (l_q := L) (st_q := [.int (i32 (n)), .ref 66]) rfl (jl_iloadn gL_1) ?_
            refine jx_ar (pc_q := 70) (st_q := [.int (i32 (12)), .int (i32 (n)), .ref 66]) rfl rfl rfl rfl ?_
            refine jx_icmp_le (pc_q := 73) (tg := 77) rfl rfl rfl (Int.le_trans (by decide : (-2147483648 : Int) ≤ -2147483648) rx_n.1) (Int.le_trans rx_n.2 (by decide : (2147483647 : Int) ≤ 2147483647)) (by decide) (by decide) (fun h98 => ?_) (fun h98 => ?_)
            · have _q := h98
              refine jx_ld (pc_q := 78) (l_q := L) (st_q := [.ref 66, .ref 66]) rfl (jl_aloadn gL_0) ?_
              refine jx_ld (pc_q := 79) (l_q := L) (st_q := [.long (v), .ref 66, .ref 66]) rfl (jl_lloadn gL_2) ?_
              refine jx_vr (pc_q := 82) (as := [.long (v)]) (st := [.ref 66]) rfl rfl rfl rfl ⟨rfl, rfl, Nat.le_of_ble_eq_true rfl⟩ rfl rfl (c_keyOf (dd := d) (hd := by omega) (hW := hWx) (v := v)     ) (fun o V_q hq => ?_)
              obtain ⟨r99, rfl, rfl, b100, -⟩ := hq
              refine .inr ⟨_, rfl, ?_⟩
              refine jr_put (pc_q := 85) (i := 13) (z := r99) rfl rfl (by decide) rfl rfl rfl rfl rfl rfl ?_
              have hW102 : Wk (uG Gx 13 (r99)) Ax := Wk_g hWx (show (-2147483648 : Int) ≤ r99 by omega) (show r99 ≤ (2147483647 : Int) by omega)
              have hF103 := Fr_g (z := r99) (i := 13) hFx (by decide)
              refine jx_ld (pc_q := 86) (l_q := L) (st_q := [.ref 66]) rfl (jl_aloadn gL_0) ?_
              refine jx_ld (pc_q := 87) (l_q := L) (st_q := [.ref 66, .ref 66]) rfl (jl_aloadn gL_0) ?_
              refine jr_get (pc_q := 90) (i := 13) (v := .int (i32 (r99))) rfl rfl (by decide) rfl rfl ?_
              refine jx_if_ne (pc_q := 93) (tg := 97) rfl rfl rfl (Int.le_trans (by decide : (-2147483648 : Int) ≤ -2147483648) b100.1) (Int.le_trans b100.2 (by decide : (2147483647 : Int) ≤ 2147483647)) (fun h104 => ?_) (fun h104 => ?_)
              · have _q := h104
                refine jx_ar (pc_q := 98) (st_q := [.int (i32 (2)), .ref 66]) rfl rfl rfl rfl ?_
                refine jr_put (pc_q := 101) (i := 11) (z := 2) rfl rfl (by decide) rfl rfl rfl rfl rfl rfl ?_
                have hW105 : Wk (uG (uG Gx 13 (r99)) 11 (2)) Ax := Wk_g hW102 (show (0 : Int) ≤ 2 by omega) (show 2 ≤ (5 : Int) by omega)
                have hF106 := Fr_g (z := 2) (i := 11) hF103 (by decide)
                refine jx_rt (v := none) rfl rfl rfl rfl rfl rfl ?_
                exact ⟨_, _, at1, 2, rfl, rfl, hW105, hF106, (ex_at1), rfl, by omega, by omega, by omega, trivial⟩
              · have _q := h104
                refine jx_ar (pc_q := 94) (st_q := [.int (i32 (5)), .ref 66]) rfl rfl rfl rfl ?_
                refine jx_go (tg := 98) rfl rfl ?_
                refine jr_put (pc_q := 101) (i := 11) (z := 5) rfl rfl (by decide) rfl rfl rfl rfl rfl rfl ?_
                have hW107 : Wk (uG (uG Gx 13 (r99)) 11 (5)) Ax := Wk_g hW102 (show (0 : Int) ≤ 5 by omega) (show 5 ≤ (5 : Int) by omega)
                have hF108 := Fr_g (z := 5) (i := 11) hF103 (by decide)
                refine jx_rt (v := none) rfl rfl rfl rfl rfl rfl ?_
                exact ⟨_, _, at1, 5, rfl, rfl, hW107, hF108, (ex_at1), rfl, by omega, by omega, by omega, trivial⟩
            · have _q := h98
              refine jx_ar (pc_q := 74) (st_q := [.int (i32 (0)), .ref 66]) rfl rfl rfl rfl ?_
              refine jx_go (tg := 82) rfl rfl ?_
              refine jr_put (pc_q := 85) (i := 13) (z := 0) rfl rfl (by decide) rfl rfl rfl rfl rfl rfl ?_
              have hW109 : Wk (uG Gx 13 (0)) Ax := Wk_g hWx (show (-2147483648 : Int) ≤ 0 by omega) (show 0 ≤ (2147483647 : Int) by omega)
              have hF110 := Fr_g (z := 0) (i := 13) hFx (by decide)
              refine jx_ld (pc_q := 86) (l_q := L) (st_q := [.ref 66]) rfl (jl_aloadn gL_0) ?_
              refine jx_ld (pc_q := 87) (l_q := L) (st_q := [.ref 66, .ref 66]) rfl (jl_aloadn gL_0) ?_
              refine jr_get (pc_q := 90) (i := 13) (v := .int (i32 (0))) rfl rfl (by decide) rfl rfl ?_
              refine jx_if_ne (pc_q := 93) (tg := 97) rfl rfl rfl (by decide) (by decide) (fun h111 => ?_) (fun h111 => ?_)
              · have _q := h111
                exact absurd h111 (by omega)
              · have _q := h111
                refine jx_ar (pc_q := 94) (st_q := [.int (i32 (5)), .ref 66]) rfl rfl rfl rfl ?_
                refine jx_go (tg := 98) rfl rfl ?_
                refine jr_put (pc_q := 101) (i := 11) (z := 5) rfl rfl (by decide) rfl rfl rfl rfl rfl rfl ?_
                have hW112 : Wk (uG (uG Gx 13 (0)) 11 (5)) Ax := Wk_g hW109 (show (0 : Int) ≤ 5 by omega) (show 5 ≤ (5 : Int) by omega)
                have hF113 := Fr_g (z := 5) (i := 11) hF110 (by decide)
                refine jx_rt (v := none) rfl rfl rfl rfl rfl rfl ?_
                exact ⟨_, _, at1, 5, rfl, rfl, hW112, hF113, (ex_at1), rfl, by omega, by omega, by omega, trivial⟩
          · have _q := h97
            exact absurd h97 (by omega)
  refine jx_ar (pc_q := 1) (st_q := [.int (i32 (0))]) rfl rfl rfl rfl ?_
  refine jx_ld (pc_q := 2) (l_q := jSto1 [(0, .ref 66)] 1 (.int (i32 (0)))) (st_q := []) rfl rfl ?_
  obtain ⟨L114, eL114⟩ : ∃ q, q = jSto1 [(0, .ref 66)] 1 (.int (i32 (0))) := ⟨_, rfl⟩
  rw [← eL114]
  have gL114_0 : jGet L114 0 = some (.ref 66) := eL114 ▸ jg_ne (by decide) (rfl : jGet [(0, .ref 66)] 0 = some (.ref 66)) rfl
  have gL114_1 : jGet L114 1 = some (.int (i32 (0))) := eL114 ▸ jg_eq
  refine jx_ar (pc_q := 3) (st_q := [.long (Int64.ofNat 0)]) rfl rfl rfl rfl ?_
  refine jx_ld (pc_q := 4) (l_q := jSto2 L114 2 (.long (Int64.ofNat 0))) (st_q := []) rfl rfl ?_
  obtain ⟨L115, eL115⟩ : ∃ q, q = jSto2 L114 2 (.long (Int64.ofNat 0)) := ⟨_, rfl⟩
  rw [← eL115]
  have gL115_0 : jGet L115 0 = some (.ref 66) := eL115 ▸ jg_ne2 (by decide) (by decide) gL114_0 (.inl rfl)
  have gL115_1 : jGet L115 1 = some (.int (i32 (0))) := eL115 ▸ jg_ne2 (by decide) (by decide) gL114_1 (.inl rfl)
  have gL115_2 : jGet L115 2 = some (.long (Int64.ofNat 0)) := eL115 ▸ jg_eq2
  exact at_4 _ L115 G A (0) (at0) (tx) (Int64.ofNat 0) rfl gL115_0 gL115_1 gL115_2 hW hF0 ((e_at0)) ((e_tx)) (by omega) (by omega) (by omega) (by omega)
set_option maxRecDepth 20000 in
set_option maxHeartbeats 4000000 in
theorem c_numberToken {X : jX} {dd : Nat} {c0 c1 : jC} {G : Nat → Int} {A : Nat → Nat → Int} {T : jH} {ln le at0 tx : Int} (hd : 2 ≤ dd) (hW : Wk G A) (e_ln : G 9 = ln) (e_le : A 4 (ln).toNat = le) (e_at0 : G 10 = at0) (e_tx : A 0 (at0).toNat = tx) (p_0 : at0 < le) (p_1 : 48 ≤ tx ∧ tx ≤ 57) : wk X dd 264 [.ref 66] (rV c0 c1 G A T) (fun o V_q => ∃ (G_q : Nat → Int) (A_q : Nat → Nat → Int) (at2 : Int) (tk2 : Int), V_q = rV c0 c1 G_q A_q T ∧ o = .inl none ∧ Wk G_q A_q ∧ Fr [10, 11, 13] [] G A G_q A_q ∧ G_q 10 = at2 ∧ G_q 11 = tk2 ∧ (at0 < at2) ∧ (at2 ≤ le) ∧ (1 ≤ tk2) ∧ True) := by
  obtain ⟨d, rfl⟩ : ∃ d, dd = d + 1 := ⟨dd - 1, by omega⟩
  refine wk_of (e := jm264) rfl (Nat.le_of_ble_eq_true rfl) ?_
  show wj X d jm264 (0, [(0, .ref 66)], [], rV c0 c1 G A T) _
  have hF0 : Fr [10, 11, 13] [] G A G A := Fr_rf
  have b_ln : (0 : Int) ≤ ln ∧ ln ≤ 3000 := e_ln ▸ hW.1 9
  have b_le : (0 : Int) ≤ le ∧ le ≤ 3000 := e_le ▸ hW.2 4 _
  have b_at0 : (0 : Int) ≤ at0 ∧ at0 ≤ 3002 := e_at0 ▸ hW.1 10
  have b_tx : (0 : Int) ≤ tx ∧ tx ≤ 126 := e_tx ▸ hW.2 0 _
  have at_4 : ∀ (m : Nat) (L : jL) (Gx : Nat → Int) (Ax : Nat → Nat → Int) (n at1 cur : Int) (v : Int64), (le - at1).toNat = m → jGet L 0 = some (.ref 66) → jGet L 1 = some (.int (i32 n)) → jGet L 2 = some (.long v) → Wk Gx Ax → Fr [10, 11, 13] [] G A Gx Ax → Gx 10 = at1 → Ax 0 (at1).toNat = cur → ((-2147483648 : Int) ≤ n ∧ n ≤ 2147483647) → (at0 ≤ at1 ∧ at1 ≤ le) → (at1 = at0 → cur = tx) → (n = at1 - at0) → wj X d jm264 (4, L, [], rV c0 c1 Gx Ax T) (fun o V_q => ∃ (G_q : Nat → Int) (A_q : Nat → Nat → Int) (at2 : Int) (tk2 : Int), V_q = rV c0 c1 G_q A_q T ∧ o = .inl none ∧ Wk G_q A_q ∧ Fr [10, 11, 13] [] G A G_q A_q ∧ G_q 10 = at2 ∧ G_q 11 = tk2 ∧ (at0 < at2) ∧ (at2 ≤ le) ∧ (1 ≤ tk2) ∧ True) := by
    intro m
    induction m using Nat.strongRecOn with
    | ind m ih4 =>
      intro L Gx Ax n at1 cur v hm gL_0 gL_1 gL_2 hWx hFx ex_at1 ex_cur rx_n iv_0 iv_1 iv_2
      have b_at1 : (0 : Int) ≤ at1 ∧ at1 ≤ 3002 := ex_at1 ▸ hWx.1 10
      refine jx_ld (pc_q := 5) (l_q := L) (st_q := [.ref 66]) rfl (jl_aloadn gL_0) ?_
      refine jx_ld (pc_q := 6) (l_q := L) (st_q := [.ref 66, .ref 66]) rfl (jl_aloadn gL_0) ?_
      refine jr_get (pc_q := 9) (i := 10) (v := .int (i32 (at1))) rfl rfl (by decide) (rFv_eq (by decide) (show Gx 10 = at1 from (ex_at1))) rfl ?_
      refine jx_vr (pc_q := 12) (as := [.int (i32 (at1))]) (st := []) rfl rfl rfl rfl ⟨rfl, rfl, Nat.le_of_ble_eq_true rfl⟩ rfl rfl (c_sign (dd := d) (hd := by omega) (hW := hWx) (k := at1) (ln := ln) (e_ln := show Gx 9 = ln from ((hFx.1 9 rfl).trans (e_ln))) (le := le) (e_le := show Ax 4 (ln).toNat = le from (congrFun (hFx.2 4 rfl) _).trans (e_le)) (tx := cur) (e_tx := show Ax 0 (at1).toNat = cur from (ex_cur))  (h_k := ⟨(Int.le_trans (by decide : (-2147483648 : Int) ≤ 0) b_at1.1), (Int.le_trans b_at1.2 (by decide : (3002 : Int) ≤ 2147483647))⟩)  (p_0 := by omega)) (fun o V_q hq => ?_)
      obtain ⟨r1, rfl, rfl, b2, q3⟩ := hq
      refine .inr ⟨_, rfl, ?_⟩
      rcases q3 with ⟨a4, a5⟩ | ⟨a6, a7⟩
      · have _q : True := trivial
        refine jx_st (pc_q := 15) (as := [.int (i32 (r1))]) (st := []) rfl rfl ⟨rfl, Nat.le_of_ble_eq_true rfl⟩ rfl rfl rfl (c_isDigit (dd := d) (hd := by omega) (v := r1)   (h_v := ⟨(Int.le_trans (by decide : (-2147483648 : Int) ≤ -2147483648) b2.1), (Int.le_trans b2.2 (by decide : (2147483647 : Int) ≤ 2147483647))⟩)  ) (fun o V_q hq => ?_)
        obtain ⟨r8, rfl, rfl, b9, q10⟩ := hq
        refine .inr ⟨_, rfl, ?_⟩
        rcases q10 with ⟨rfl, a11, a12⟩ | ⟨rfl, a13⟩
        · have _q : True := trivial
          refine jx_if_eq (pc_q := 18) (tg := 64) rfl rfl rfl (by decide) (by decide) (fun h14 => ?_) (fun h14 => ?_)
          · have _q := h14
            exact absurd h14 (by omega)
          · have _q := h14
            refine jx_ld (pc_q := 19) (l_q := L) (st_q := [.int (i32 (n))]) rfl (jl_iloadn gL_1) ?_
            refine jx_ar (pc_q := 21) (st_q := [.int (i32 (10)), .int (i32 (n))]) rfl rfl rfl rfl ?_
            refine jx_icmp_ge (pc_q := 24) (tg := 46) rfl rfl rfl (Int.le_trans (by decide : (-2147483648 : Int) ≤ -2147483648) rx_n.1) (Int.le_trans rx_n.2 (by decide : (2147483647 : Int) ≤ 2147483647)) (by decide) (by decide) (fun h15 => ?_) (fun h15 => ?_)
            · have _q := h15
              refine jx_ld (pc_q := 47) (l_q := L) (st_q := [.long (v)]) rfl (jl_lloadn gL_2) ?_
              refine jx_ld (pc_q := 48) (l_q := jSto2 L 2 (.long (v))) (st_q := []) rfl rfl ?_
              obtain ⟨L16, eL16⟩ : ∃ q, q = jSto2 L 2 (.long (v)) := ⟨_, rfl⟩
              rw [← eL16]
              have gL16_0 : jGet L16 0 = some (.ref 66) := eL16 ▸ jg_ne2 (by decide) (by decide) gL_0 (.inl rfl)
              have gL16_1 : jGet L16 1 = some (.int (i32 (n))) := eL16 ▸ jg_ne2 (by decide) (by decide) gL_1 (.inl rfl)
              have gL16_2 : jGet L16 2 = some (.long (v)) := eL16 ▸ jg_eq2
              refine jx_inc (pc_q := 51) (l_q := jSto1 L16 1 (.int (i32 ((n + (1)))))) (x := n) rfl gL16_1 (by decide) rfl rfl ?_
              obtain ⟨L17, eL17⟩ : ∃ q, q = jSto1 L16 1 (.int (i32 ((n + (1))))) := ⟨_, rfl⟩
              rw [← eL17]
              have gL17_0 : jGet L17 0 = some (.ref 66) := eL17 ▸ jg_ne (by decide) gL16_0 rfl
              have gL17_2 : jGet L17 2 = some (.long (v)) := eL17 ▸ jg_nel (by decide) gL16_2 (by decide)
              have gL17_1 : jGet L17 1 = some (.int (i32 ((n + (1))))) := eL17 ▸ jg_eq
              refine jx_ld (pc_q := 52) (l_q := L17) (st_q := [.ref 66]) rfl (jl_aloadn gL17_0) ?_
              refine jx_ar (pc_q := 53) (st_q := [.ref 66, .ref 66]) rfl rfl rfl rfl ?_
              refine jr_get (pc_q := 56) (i := 10) (v := .int (i32 (at1))) rfl rfl (by decide) (rFv_eq (by decide) (show Gx 10 = at1 from (ex_at1))) rfl ?_
              refine jx_ar (pc_q := 57) (st_q := [.int (i32 (1)), .int (i32 (at1)), .ref 66]) rfl rfl rfl rfl ?_
              refine jx_add (pc_q := 58) rfl rfl ?_
              refine jr_put (pc_q := 61) (i := 10) (z := (at1 + 1)) rfl rfl (by decide) rfl rfl rfl rfl rfl rfl ?_
              have hW18 : Wk (uG Gx 10 ((at1 + 1))) Ax := Wk_g hWx (show (0 : Int) ≤ (at1 + 1) by omega) (show (at1 + 1) ≤ (3002 : Int) by omega)
              have hF19 := Fr_g (z := (at1 + 1)) (i := 10) hFx (by decide)
              refine jx_go (tg := 4) rfl rfl ?_
              exact ih4 _ (by omega) L17 (uG Gx 10 ((at1 + 1))) Ax ((n + (1))) ((at1 + 1)) (A 0 ((at1 + 1)).toNat) (v) rfl gL17_0 gL17_1 gL17_2 hW18 hF19 (rfl) ((congrFun (hFx.2 0 rfl) _)) (by omega) (by omega) (by omega) (by omega)
            · have _q := h15
              refine jx_hp (pc_q := 27) (st_q := [.long (10)]) rfl rfl rfl rfl rfl rfl ?_
              refine jx_ld (pc_q := 28) (l_q := L) (st_q := [.long (v), .long (10)]) rfl (jl_lloadn gL_2) ?_
              refine jx_ar (pc_q := 29) (st_q := .long ((10 : Int64) * (v)) :: []) rfl rfl rfl rfl ?_
              obtain ⟨y20, ey20⟩ : ∃ q : Int64, q = (10 : Int64) * (v) := ⟨_, rfl⟩
              rw [← ey20]
              refine jx_ld (pc_q := 30) (l_q := L) (st_q := [.ref 66, .long (y20)]) rfl (jl_aloadn gL_0) ?_
              refine jx_ld (pc_q := 31) (l_q := L) (st_q := [.ref 66, .ref 66, .long (y20)]) rfl (jl_aloadn gL_0) ?_
              refine jr_get (pc_q := 34) (i := 10) (v := .int (i32 (at1))) rfl rfl (by decide) (rFv_eq (by decide) (show Gx 10 = at1 from (ex_at1))) rfl ?_
              refine jx_vr (pc_q := 37) (as := [.int (i32 (at1))]) (st := [.long (y20)]) rfl rfl rfl rfl ⟨rfl, rfl, Nat.le_of_ble_eq_true rfl⟩ rfl rfl (c_sign (dd := d) (hd := by omega) (hW := hWx) (k := at1) (ln := ln) (e_ln := show Gx 9 = ln from ((hFx.1 9 rfl).trans (e_ln))) (le := le) (e_le := show Ax 4 (ln).toNat = le from (congrFun (hFx.2 4 rfl) _).trans (e_le)) (tx := cur) (e_tx := show Ax 0 (at1).toNat = cur from (ex_cur))  (h_k := ⟨(Int.le_trans (by decide : (-2147483648 : Int) ≤ 0) b_at1.1), (Int.le_trans b_at1.2 (by decide : (3002 : Int) ≤ 2147483647))⟩)  (p_0 := by omega)) (fun o V_q hq => ?_)
              obtain ⟨r21, rfl, rfl, b22, q23⟩ := hq
              refine .inr ⟨_, rfl, ?_⟩
              rcases q23 with ⟨a24, a25⟩ | ⟨a26, a27⟩
              · have _q : True := trivial
                refine jx_ar (pc_q := 38) (st_q := .long ((i32 (r21)).toInt64) :: [.long (y20)]) rfl rfl rfl rfl ?_
                obtain ⟨y28, ey28⟩ : ∃ q : Int64, q = (i32 (r21)).toInt64 := ⟨_, rfl⟩
                rw [← ey28]
                refine jx_ar (pc_q := 39) (st_q := .long ((y20 : Int64) + (y28)) :: []) rfl rfl rfl rfl ?_
                obtain ⟨y29, ey29⟩ : ∃ q : Int64, q = (y20 : Int64) + (y28) := ⟨_, rfl⟩
                rw [← ey29]
                refine jx_hp (pc_q := 42) (st_q := [.long (48), .long (y29)]) rfl rfl rfl rfl rfl rfl ?_
                refine jx_ar (pc_q := 43) (st_q := .long ((y29 : Int64) - (48)) :: []) rfl rfl rfl rfl ?_
                obtain ⟨y30, ey30⟩ : ∃ q : Int64, q = (y29 : Int64) - (48) := ⟨_, rfl⟩
                rw [← ey30]
                refine jx_go (tg := 47) rfl rfl ?_
                refine jx_ld (pc_q := 48) (l_q := jSto2 L 2 (.long (y30))) (st_q := []) rfl rfl ?_
                obtain ⟨L31, eL31⟩ : ∃ q, q = jSto2 L 2 (.long (y30)) := ⟨_, rfl⟩
                rw [← eL31]
                have gL31_0 : jGet L31 0 = some (.ref 66) := eL31 ▸ jg_ne2 (by decide) (by decide) gL_0 (.inl rfl)
                have gL31_1 : jGet L31 1 = some (.int (i32 (n))) := eL31 ▸ jg_ne2 (by decide) (by decide) gL_1 (.inl rfl)
                have gL31_2 : jGet L31 2 = some (.long (y30)) := eL31 ▸ jg_eq2
                refine jx_inc (pc_q := 51) (l_q := jSto1 L31 1 (.int (i32 ((n + (1)))))) (x := n) rfl gL31_1 (by decide) rfl rfl ?_
                obtain ⟨L32, eL32⟩ : ∃ q, q = jSto1 L31 1 (.int (i32 ((n + (1))))) := ⟨_, rfl⟩
                rw [← eL32]
                have gL32_0 : jGet L32 0 = some (.ref 66) := eL32 ▸ jg_ne (by decide) gL31_0 rfl
                have gL32_2 : jGet L32 2 = some (.long (y30)) := eL32 ▸ jg_nel (by decide) gL31_2 (by decide)
                have gL32_1 : jGet L32 1 = some (.int (i32 ((n + (1))))) := eL32 ▸ jg_eq
                refine jx_ld (pc_q := 52) (l_q := L32) (st_q := [.ref 66]) rfl (jl_aloadn gL32_0) ?_
                refine jx_ar (pc_q := 53) (st_q := [.ref 66, .ref 66]) rfl rfl rfl rfl ?_
                refine jr_get (pc_q := 56) (i := 10) (v := .int (i32 (at1))) rfl rfl (by decide) (rFv_eq (by decide) (show Gx 10 = at1 from (ex_at1))) rfl ?_
                refine jx_ar (pc_q := 57) (st_q := [.int (i32 (1)), .int (i32 (at1)), .ref 66]) rfl rfl rfl rfl ?_
                refine jx_add (pc_q := 58) rfl rfl ?_
                refine jr_put (pc_q := 61) (i := 10) (z := (at1 + 1)) rfl rfl (by decide) rfl rfl rfl rfl rfl rfl ?_
                have hW33 : Wk (uG Gx 10 ((at1 + 1))) Ax := Wk_g hWx (show (0 : Int) ≤ (at1 + 1) by omega) (show (at1 + 1) ≤ (3002 : Int) by omega)
                have hF34 := Fr_g (z := (at1 + 1)) (i := 10) hFx (by decide)
                refine jx_go (tg := 4) rfl rfl ?_
                exact ih4 _ (by omega) L32 (uG Gx 10 ((at1 + 1))) Ax ((n + (1))) ((at1 + 1)) (A 0 ((at1 + 1)).toNat) (y30) rfl gL32_0 gL32_1 gL32_2 hW33 hF34 (rfl) ((congrFun (hFx.2 0 rfl) _)) (by omega) (by omega) (by omega) (by omega)
              · have _q : True := trivial
                refine jx_ar (pc_q := 38) (st_q := .long ((i32 (r21)).toInt64) :: [.long (y20)]) rfl rfl rfl rfl ?_
                obtain ⟨y35, ey35⟩ : ∃ q : Int64, q = (i32 (r21)).toInt64 := ⟨_, rfl⟩
                rw [← ey35]
                refine jx_ar (pc_q := 39) (st_q := .long ((y20 : Int64) + (y35)) :: []) rfl rfl rfl rfl ?_
                obtain ⟨y36, ey36⟩ : ∃ q : Int64, q = (y20 : Int64) + (y35) := ⟨_, rfl⟩
                rw [← ey36]
                refine jx_hp (pc_q := 42) (st_q := [.long (48), .long (y36)]) rfl rfl rfl rfl rfl rfl ?_
                refine jx_ar (pc_q := 43) (st_q := .long ((y36 : Int64) - (48)) :: []) rfl rfl rfl rfl ?_
                obtain ⟨y37, ey37⟩ : ∃ q : Int64, q = (y36 : Int64) - (48) := ⟨_, rfl⟩
                rw [← ey37]
                refine jx_go (tg := 47) rfl rfl ?_
                refine jx_ld (pc_q := 48) (l_q := jSto2 L 2 (.long (y37))) (st_q := []) rfl rfl ?_
                obtain ⟨L38, eL38⟩ : ∃ q, q = jSto2 L 2 (.long (y37)) := ⟨_, rfl⟩
                rw [← eL38]
                have gL38_0 : jGet L38 0 = some (.ref 66) := eL38 ▸ jg_ne2 (by decide) (by decide) gL_0 (.inl rfl)
                have gL38_1 : jGet L38 1 = some (.int (i32 (n))) := eL38 ▸ jg_ne2 (by decide) (by decide) gL_1 (.inl rfl)
                have gL38_2 : jGet L38 2 = some (.long (y37)) := eL38 ▸ jg_eq2
                refine jx_inc (pc_q := 51) (l_q := jSto1 L38 1 (.int (i32 ((n + (1)))))) (x := n) rfl gL38_1 (by decide) rfl rfl ?_
                obtain ⟨L39, eL39⟩ : ∃ q, q = jSto1 L38 1 (.int (i32 ((n + (1))))) := ⟨_, rfl⟩
                rw [← eL39]
                have gL39_0 : jGet L39 0 = some (.ref 66) := eL39 ▸ jg_ne (by decide) gL38_0 rfl
                have gL39_2 : jGet L39 2 = some (.long (y37)) := eL39 ▸ jg_nel (by decide) gL38_2 (by decide)
                have gL39_1 : jGet L39 1 = some (.int (i32 ((n + (1))))) := eL39 ▸ jg_eq
                refine jx_ld (pc_q := 52) (l_q := L39) (st_q := [.ref 66]) rfl (jl_aloadn gL39_0) ?_
                refine jx_ar (pc_q := 53) (st_q := [.ref 66, .ref 66]) rfl rfl rfl rfl ?_
                refine jr_get (pc_q := 56) (i := 10) (v := .int (i32 (at1))) rfl rfl (by decide) (rFv_eq (by decide) (show Gx 10 = at1 from (ex_at1))) rfl ?_
                refine jx_ar (pc_q := 57) (st_q := [.int (i32 (1)), .int (i32 (at1)), .ref 66]) rfl rfl rfl rfl ?_
                refine jx_add (pc_q := 58) rfl rfl ?_
                refine jr_put (pc_q := 61) (i := 10) (z := (at1 + 1)) rfl rfl (by decide) rfl rfl rfl rfl rfl rfl ?_
                have hW40 : Wk (uG Gx 10 ((at1 + 1))) Ax := Wk_g hWx (show (0 : Int) ≤ (at1 + 1) by omega) (show (at1 + 1) ≤ (3002 : Int) by omega)
                have hF41 := Fr_g (z := (at1 + 1)) (i := 10) hFx (by decide)
                refine jx_go (tg := 4) rfl rfl ?_
                exact ih4 _ (by omega) L39 (uG Gx 10 ((at1 + 1))) Ax ((n + (1))) ((at1 + 1)) (A 0 ((at1 + 1)).toNat) (y37) rfl gL39_0 gL39_1 gL39_2 hW40 hF41 (rfl) ((congrFun (hFx.2 0 rfl) _)) (by omega) (by omega) (by omega) (by omega)
        · have _q : True := trivial
          refine jx_if_eq (pc_q := 18) (tg := 64) rfl rfl rfl (by decide) (by decide) (fun h42 => ?_) (fun h42 => ?_)
          · have _q := h42
            refine jx_ld (pc_q := 65) (l_q := L) (st_q := [.int (i32 (n))]) rfl (jl_iloadn gL_1) ?_
            refine jx_ar (pc_q := 67) (st_q := [.int (i32 (10)), .int (i32 (n))]) rfl rfl rfl rfl ?_
            refine jx_icmp_gt (pc_q := 70) (tg := 82) rfl rfl rfl (Int.le_trans (by decide : (-2147483648 : Int) ≤ -2147483648) rx_n.1) (Int.le_trans rx_n.2 (by decide : (2147483647 : Int) ≤ 2147483647)) (by decide) (by decide) (fun h43 => ?_) (fun h43 => ?_)
            · have _q := h43
              refine jx_ar (pc_q := 83) (st_q := [.int (i32 (0))]) rfl rfl rfl rfl ?_
              refine jx_ld (pc_q := 85) (l_q := jSto1 L 4 (.int (i32 (0)))) (st_q := []) rfl rfl ?_
              obtain ⟨L44, eL44⟩ : ∃ q, q = jSto1 L 4 (.int (i32 (0))) := ⟨_, rfl⟩
              rw [← eL44]
              have gL44_0 : jGet L44 0 = some (.ref 66) := eL44 ▸ jg_ne (by decide) gL_0 rfl
              have gL44_1 : jGet L44 1 = some (.int (i32 (n))) := eL44 ▸ jg_ne (by decide) gL_1 rfl
              have gL44_2 : jGet L44 2 = some (.long (v)) := eL44 ▸ jg_nel (by decide) gL_2 (by decide)
              have gL44_4 : jGet L44 4 = some (.int (i32 (0))) := eL44 ▸ jg_eq
              refine jx_ld (pc_q := 86) (l_q := L44) (st_q := [.ref 66]) rfl (jl_aloadn gL44_0) ?_
              refine jx_ld (pc_q := 88) (l_q := L44) (st_q := [.int (i32 (0)), .ref 66]) rfl (jl_iload gL44_4) ?_
              refine jx_if_eq (pc_q := 91) (tg := 95) rfl rfl rfl (by decide) (by decide) (fun h45 => ?_) (fun h45 => ?_)
              · have _q := h45
                refine jx_ar (pc_q := 96) (st_q := [.int (i32 (5)), .ref 66]) rfl rfl rfl rfl ?_
                refine jr_put (pc_q := 99) (i := 11) (z := 5) rfl rfl (by decide) rfl rfl rfl rfl rfl rfl ?_
                have hW46 : Wk (uG Gx 11 (5)) Ax := Wk_g hWx (show (0 : Int) ≤ 5 by omega) (show 5 ≤ (5 : Int) by omega)
                have hF47 := Fr_g (z := 5) (i := 11) hFx (by decide)
                refine jx_ld (pc_q := 100) (l_q := L44) (st_q := [.ref 66]) rfl (jl_aloadn gL44_0) ?_
                refine jx_ld (pc_q := 102) (l_q := L44) (st_q := [.int (i32 (0)), .ref 66]) rfl (jl_iload gL44_4) ?_
                refine jx_if_eq (pc_q := 105) (tg := 110) rfl rfl rfl (by decide) (by decide) (fun h48 => ?_) (fun h48 => ?_)
                · have _q := h48
                  refine jx_ar (pc_q := 111) (st_q := [.int (i32 (0)), .ref 66]) rfl rfl rfl rfl ?_
                  refine jr_put (pc_q := 114) (i := 13) (z := 0) rfl rfl (by decide) rfl rfl rfl rfl rfl rfl ?_
                  have hW49 : Wk (uG (uG Gx 11 (5)) 13 (0)) Ax := Wk_g hW46 (show (-2147483648 : Int) ≤ 0 by omega) (show 0 ≤ (2147483647 : Int) by omega)
                  have hF50 := Fr_g (z := 0) (i := 13) hF47 (by decide)
                  refine jx_rt (v := none) rfl rfl rfl rfl rfl rfl ?_
                  exact ⟨_, _, at1, 5, rfl, rfl, hW49, hF50, (ex_at1), rfl, by omega, by omega, by omega, trivial⟩
                · have _q := h48
                  exact absurd h48 (by omega)
              · have _q := h45
                exact absurd h45 (by omega)
            · have _q := h43
              refine jx_ld (pc_q := 71) (l_q := L) (st_q := [.long (v)]) rfl (jl_lloadn gL_2) ?_
              refine jx_hp (pc_q := 74) (st_q := [.long (2147483647), .long (v)]) rfl rfl rfl rfl rfl rfl ?_
              refine jx_lcmp (pc_q := 75) rfl rfl (fun r51 hr51 => ?_)
              refine jx_if_gt (pc_q := 78) (tg := 82) rfl rfl rfl (by omega) (by omega) (fun h52 => ?_) (fun h52 => ?_)
              · have _q := h52
                refine jx_ar (pc_q := 83) (st_q := [.int (i32 (0))]) rfl rfl rfl rfl ?_
                refine jx_ld (pc_q := 85) (l_q := jSto1 L 4 (.int (i32 (0)))) (st_q := []) rfl rfl ?_
                obtain ⟨L53, eL53⟩ : ∃ q, q = jSto1 L 4 (.int (i32 (0))) := ⟨_, rfl⟩
                rw [← eL53]
                have gL53_0 : jGet L53 0 = some (.ref 66) := eL53 ▸ jg_ne (by decide) gL_0 rfl
                have gL53_1 : jGet L53 1 = some (.int (i32 (n))) := eL53 ▸ jg_ne (by decide) gL_1 rfl
                have gL53_2 : jGet L53 2 = some (.long (v)) := eL53 ▸ jg_nel (by decide) gL_2 (by decide)
                have gL53_4 : jGet L53 4 = some (.int (i32 (0))) := eL53 ▸ jg_eq
                refine jx_ld (pc_q := 86) (l_q := L53) (st_q := [.ref 66]) rfl (jl_aloadn gL53_0) ?_
                refine jx_ld (pc_q := 88) (l_q := L53) (st_q := [.int (i32 (0)), .ref 66]) rfl (jl_iload gL53_4) ?_
                refine jx_if_eq (pc_q := 91) (tg := 95) rfl rfl rfl (by decide) (by decide) (fun h54 => ?_) (fun h54 => ?_)
                · have _q := h54
                  refine jx_ar (pc_q := 96) (st_q := [.int (i32 (5)), .ref 66]) rfl rfl rfl rfl ?_
                  refine jr_put (pc_q := 99) (i := 11) (z := 5) rfl rfl (by decide) rfl rfl rfl rfl rfl rfl ?_
                  have hW55 : Wk (uG Gx 11 (5)) Ax := Wk_g hWx (show (0 : Int) ≤ 5 by omega) (show 5 ≤ (5 : Int) by omega)
                  have hF56 := Fr_g (z := 5) (i := 11) hFx (by decide)
                  refine jx_ld (pc_q := 100) (l_q := L53) (st_q := [.ref 66]) rfl (jl_aloadn gL53_0) ?_
                  refine jx_ld (pc_q := 102) (l_q := L53) (st_q := [.int (i32 (0)), .ref 66]) rfl (jl_iload gL53_4) ?_
                  refine jx_if_eq (pc_q := 105) (tg := 110) rfl rfl rfl (by decide) (by decide) (fun h57 => ?_) (fun h57 => ?_)
                  · have _q := h57
                    refine jx_ar (pc_q := 111) (st_q := [.int (i32 (0)), .ref 66]) rfl rfl rfl rfl ?_
                    refine jr_put (pc_q := 114) (i := 13) (z := 0) rfl rfl (by decide) rfl rfl rfl rfl rfl rfl ?_
                    have hW58 : Wk (uG (uG Gx 11 (5)) 13 (0)) Ax := Wk_g hW55 (show (-2147483648 : Int) ≤ 0 by omega) (show 0 ≤ (2147483647 : Int) by omega)
                    have hF59 := Fr_g (z := 0) (i := 13) hF56 (by decide)
                    refine jx_rt (v := none) rfl rfl rfl rfl rfl rfl ?_
                    exact ⟨_, _, at1, 5, rfl, rfl, hW58, hF59, (ex_at1), rfl, by omega, by omega, by omega, trivial⟩
                  · have _q := h57
                    exact absurd h57 (by omega)
                · have _q := h54
                  exact absurd h54 (by omega)
              · have _q := h52
                refine jx_ar (pc_q := 79) (st_q := [.int (i32 (1))]) rfl rfl rfl rfl ?_
                refine jx_go (tg := 83) rfl rfl ?_
                refine jx_ld (pc_q := 85) (l_q := jSto1 L 4 (.int (i32 (1)))) (st_q := []) rfl rfl ?_
                obtain ⟨L60, eL60⟩ : ∃ q, q = jSto1 L 4 (.int (i32 (1))) := ⟨_, rfl⟩
                rw [← eL60]
                have gL60_0 : jGet L60 0 = some (.ref 66) := eL60 ▸ jg_ne (by decide) gL_0 rfl
                have gL60_1 : jGet L60 1 = some (.int (i32 (n))) := eL60 ▸ jg_ne (by decide) gL_1 rfl
                have gL60_2 : jGet L60 2 = some (.long (v)) := eL60 ▸ jg_nel (by decide) gL_2 (by decide)
                have gL60_4 : jGet L60 4 = some (.int (i32 (1))) := eL60 ▸ jg_eq
                refine jx_ld (pc_q := 86) (l_q := L60) (st_q := [.ref 66]) rfl (jl_aloadn gL60_0) ?_
                refine jx_ld (pc_q := 88) (l_q := L60) (st_q := [.int (i32 (1)), .ref 66]) rfl (jl_iload gL60_4) ?_
                refine jx_if_eq (pc_q := 91) (tg := 95) rfl rfl rfl (by decide) (by decide) (fun h61 => ?_) (fun h61 => ?_)
                · have _q := h61
                  exact absurd h61 (by omega)
                · have _q := h61
                  refine jx_ar (pc_q := 92) (st_q := [.int (i32 (3)), .ref 66]) rfl rfl rfl rfl ?_
                  refine jx_go (tg := 96) rfl rfl ?_
                  refine jr_put (pc_q := 99) (i := 11) (z := 3) rfl rfl (by decide) rfl rfl rfl rfl rfl rfl ?_
                  have hW62 : Wk (uG Gx 11 (3)) Ax := Wk_g hWx (show (0 : Int) ≤ 3 by omega) (show 3 ≤ (5 : Int) by omega)
                  have hF63 := Fr_g (z := 3) (i := 11) hFx (by decide)
                  refine jx_ld (pc_q := 100) (l_q := L60) (st_q := [.ref 66]) rfl (jl_aloadn gL60_0) ?_
                  refine jx_ld (pc_q := 102) (l_q := L60) (st_q := [.int (i32 (1)), .ref 66]) rfl (jl_iload gL60_4) ?_
                  refine jx_if_eq (pc_q := 105) (tg := 110) rfl rfl rfl (by decide) (by decide) (fun h64 => ?_) (fun h64 => ?_)
                  · have _q := h64
                    exact absurd h64 (by omega)
                  · have _q := h64
                    refine jx_ld (pc_q := 106) (l_q := L60) (st_q := [.long (v), .ref 66]) rfl (jl_lloadn gL60_2) ?_
                    refine jx_l2i (pc_q := 107) rfl rfl (fun r65 hr65 => ?_)
                    refine jx_go (tg := 111) rfl rfl ?_
                    refine jr_put (pc_q := 114) (i := 13) (z := r65) rfl rfl (by decide) rfl rfl rfl rfl rfl rfl ?_
                    have hW66 : Wk (uG (uG Gx 11 (3)) 13 (r65)) Ax := Wk_g hW62 (show (-2147483648 : Int) ≤ r65 by omega) (show r65 ≤ (2147483647 : Int) by omega)
                    have hF67 := Fr_g (z := r65) (i := 13) hF63 (by decide)
                    refine jx_rt (v := none) rfl rfl rfl rfl rfl rfl ?_
                    exact ⟨_, _, at1, 3, rfl, rfl, hW66, hF67, (ex_at1), rfl, by omega, by omega, by omega, trivial⟩
          · have _q := h42
            exact absurd h42 (by omega)
      · have _q : True := trivial
        refine jx_st (pc_q := 15) (as := [.int (i32 (r1))]) (st := []) rfl rfl ⟨rfl, Nat.le_of_ble_eq_true rfl⟩ rfl rfl rfl (c_isDigit (dd := d) (hd := by omega) (v := r1)   (h_v := ⟨(Int.le_trans (by decide : (-2147483648 : Int) ≤ -2147483648) b2.1), (Int.le_trans b2.2 (by decide : (2147483647 : Int) ≤ 2147483647))⟩)  ) (fun o V_q hq => ?_)
        obtain ⟨r68, rfl, rfl, b69, q70⟩ := hq
        refine .inr ⟨_, rfl, ?_⟩
        rcases q70 with ⟨rfl, a71, a72⟩ | ⟨rfl, a73⟩
        · have _q : True := trivial
          refine jx_if_eq (pc_q := 18) (tg := 64) rfl rfl rfl (by decide) (by decide) (fun h74 => ?_) (fun h74 => ?_)
          · have _q := h74
            exact absurd h74 (by omega)
          · have _q := h74
            refine jx_ld (pc_q := 19) (l_q := L) (st_q := [.int (i32 (n))]) rfl (jl_iloadn gL_1) ?_
            refine jx_ar (pc_q := 21) (st_q := [.int (i32 (10)), .int (i32 (n))]) rfl rfl rfl rfl ?_
            refine jx_icmp_ge (pc_q := 24) (tg := 46) rfl rfl rfl (Int.le_trans (by decide : (-2147483648 : Int) ≤ -2147483648) rx_n.1) (Int.le_trans rx_n.2 (by decide : (2147483647 : Int) ≤ 2147483647)) (by decide) (by decide) (fun h75 => ?_) (fun h75 => ?_)
            · have _q := h75
              refine jx_ld (pc_q := 47) (l_q := L) (st_q := [.long (v)]) rfl (jl_lloadn gL_2) ?_
              refine jx_ld (pc_q := 48) (l_q := jSto2 L 2 (.long (v))) (st_q := []) rfl rfl ?_
              obtain ⟨L76, eL76⟩ : ∃ q, q = jSto2 L 2 (.long (v)) := ⟨_, rfl⟩
              rw [← eL76]
              have gL76_0 : jGet L76 0 = some (.ref 66) := eL76 ▸ jg_ne2 (by decide) (by decide) gL_0 (.inl rfl)
              have gL76_1 : jGet L76 1 = some (.int (i32 (n))) := eL76 ▸ jg_ne2 (by decide) (by decide) gL_1 (.inl rfl)
              have gL76_2 : jGet L76 2 = some (.long (v)) := eL76 ▸ jg_eq2
              refine jx_inc (pc_q := 51) (l_q := jSto1 L76 1 (.int (i32 ((n + (1)))))) (x := n) rfl gL76_1 (by decide) rfl rfl ?_
              obtain ⟨L77, eL77⟩ : ∃ q, q = jSto1 L76 1 (.int (i32 ((n + (1))))) := ⟨_, rfl⟩
              rw [← eL77]
              have gL77_0 : jGet L77 0 = some (.ref 66) := eL77 ▸ jg_ne (by decide) gL76_0 rfl
              have gL77_2 : jGet L77 2 = some (.long (v)) := eL77 ▸ jg_nel (by decide) gL76_2 (by decide)
              have gL77_1 : jGet L77 1 = some (.int (i32 ((n + (1))))) := eL77 ▸ jg_eq
              refine jx_ld (pc_q := 52) (l_q := L77) (st_q := [.ref 66]) rfl (jl_aloadn gL77_0) ?_
              refine jx_ar (pc_q := 53) (st_q := [.ref 66, .ref 66]) rfl rfl rfl rfl ?_
              refine jr_get (pc_q := 56) (i := 10) (v := .int (i32 (at1))) rfl rfl (by decide) (rFv_eq (by decide) (show Gx 10 = at1 from (ex_at1))) rfl ?_
              refine jx_ar (pc_q := 57) (st_q := [.int (i32 (1)), .int (i32 (at1)), .ref 66]) rfl rfl rfl rfl ?_
              refine jx_add (pc_q := 58) rfl rfl ?_
              refine jr_put (pc_q := 61) (i := 10) (z := (at1 + 1)) rfl rfl (by decide) rfl rfl rfl rfl rfl rfl ?_
              have hW78 : Wk (uG Gx 10 ((at1 + 1))) Ax := Wk_g hWx (show (0 : Int) ≤ (at1 + 1) by omega) (show (at1 + 1) ≤ (3002 : Int) by omega)
              have hF79 := Fr_g (z := (at1 + 1)) (i := 10) hFx (by decide)
              refine jx_go (tg := 4) rfl rfl ?_
              exact ih4 _ (by omega) L77 (uG Gx 10 ((at1 + 1))) Ax ((n + (1))) ((at1 + 1)) (A 0 ((at1 + 1)).toNat) (v) rfl gL77_0 gL77_1 gL77_2 hW78 hF79 (rfl) ((congrFun (hFx.2 0 rfl) _)) (by omega) (by omega) (by omega) (by omega)
            · have _q := h75
              refine jx_hp (pc_q := 27) (st_q := [.long (10)]) rfl rfl rfl rfl rfl rfl ?_
              refine jx_ld (pc_q := 28) (l_q := L) (st_q := [.long (v), .long (10)]) rfl (jl_lloadn gL_2) ?_
              refine jx_ar (pc_q := 29) (st_q := .long ((10 : Int64) * (v)) :: []) rfl rfl rfl rfl ?_
              obtain ⟨y80, ey80⟩ : ∃ q : Int64, q = (10 : Int64) * (v) := ⟨_, rfl⟩
              rw [← ey80]
              refine jx_ld (pc_q := 30) (l_q := L) (st_q := [.ref 66, .long (y80)]) rfl (jl_aloadn gL_0) ?_
              refine jx_ld (pc_q := 31) (l_q := L) (st_q := [.ref 66, .ref 66, .long (y80)]) rfl (jl_aloadn gL_0) ?_
              refine jr_get (pc_q := 34) (i := 10) (v := .int (i32 (at1))) rfl rfl (by decide) (rFv_eq (by decide) (show Gx 10 = at1 from (ex_at1))) rfl ?_
              refine jx_vr (pc_q := 37) (as := [.int (i32 (at1))]) (st := [.long (y80)]) rfl rfl rfl rfl ⟨rfl, rfl, Nat.le_of_ble_eq_true rfl⟩ rfl rfl (c_sign (dd := d) (hd := by omega) (hW := hWx) (k := at1) (ln := ln) (e_ln := show Gx 9 = ln from ((hFx.1 9 rfl).trans (e_ln))) (le := le) (e_le := show Ax 4 (ln).toNat = le from (congrFun (hFx.2 4 rfl) _).trans (e_le)) (tx := cur) (e_tx := show Ax 0 (at1).toNat = cur from (ex_cur))  (h_k := ⟨(Int.le_trans (by decide : (-2147483648 : Int) ≤ 0) b_at1.1), (Int.le_trans b_at1.2 (by decide : (3002 : Int) ≤ 2147483647))⟩)  (p_0 := by omega)) (fun o V_q hq => ?_)
              obtain ⟨r81, rfl, rfl, b82, q83⟩ := hq
              refine .inr ⟨_, rfl, ?_⟩
              rcases q83 with ⟨a84, a85⟩ | ⟨a86, a87⟩
              · have _q : True := trivial
                refine jx_ar (pc_q := 38) (st_q := .long ((i32 (r81)).toInt64) :: [.long (y80)]) rfl rfl rfl rfl ?_
                obtain ⟨y88, ey88⟩ : ∃ q : Int64, q = (i32 (r81)).toInt64 := ⟨_, rfl⟩
                rw [← ey88]
                refine jx_ar (pc_q := 39) (st_q := .long ((y80 : Int64) + (y88)) :: []) rfl rfl rfl rfl ?_
                obtain ⟨y89, ey89⟩ : ∃ q : Int64, q = (y80 : Int64) + (y88) := ⟨_, rfl⟩
                rw [← ey89]
                refine jx_hp (pc_q := 42) (st_q := [.long (48), .long (y89)]) rfl rfl rfl rfl rfl rfl ?_
                refine jx_ar (pc_q := 43) (st_q := .long ((y89 : Int64) - (48)) :: []) rfl rfl rfl rfl ?_
                obtain ⟨y90, ey90⟩ : ∃ q : Int64, q = (y89 : Int64) - (48) := ⟨_, rfl⟩
                rw [← ey90]
                refine jx_go (tg := 47) rfl rfl ?_
                refine jx_ld (pc_q := 48) (l_q := jSto2 L 2 (.long (y90))) (st_q := []) rfl rfl ?_
                obtain ⟨L91, eL91⟩ : ∃ q, q = jSto2 L 2 (.long (y90)) := ⟨_, rfl⟩
                rw [← eL91]
                have gL91_0 : jGet L91 0 = some (.ref 66) := eL91 ▸ jg_ne2 (by decide) (by decide) gL_0 (.inl rfl)
                have gL91_1 : jGet L91 1 = some (.int (i32 (n))) := eL91 ▸ jg_ne2 (by decide) (by decide) gL_1 (.inl rfl)
                have gL91_2 : jGet L91 2 = some (.long (y90)) := eL91 ▸ jg_eq2
                refine jx_inc (pc_q := 51) (l_q := jSto1 L91 1 (.int (i32 ((n + (1)))))) (x := n) rfl gL91_1 (by decide) rfl rfl ?_
                obtain ⟨L92, eL92⟩ : ∃ q, q = jSto1 L91 1 (.int (i32 ((n + (1))))) := ⟨_, rfl⟩
                rw [← eL92]
                have gL92_0 : jGet L92 0 = some (.ref 66) := eL92 ▸ jg_ne (by decide) gL91_0 rfl
                have gL92_2 : jGet L92 2 = some (.long (y90)) := eL92 ▸ jg_nel (by decide) gL91_2 (by decide)
                have gL92_1 : jGet L92 1 = some (.int (i32 ((n + (1))))) := eL92 ▸ jg_eq
                refine jx_ld (pc_q := 52) (l_q := L92) (st_q := [.ref 66]) rfl (jl_aloadn gL92_0) ?_
                refine jx_ar (pc_q := 53) (st_q := [.ref 66, .ref 66]) rfl rfl rfl rfl ?_
                refine jr_get (pc_q := 56) (i := 10) (v := .int (i32 (at1))) rfl rfl (by decide) (rFv_eq (by decide) (show Gx 10 = at1 from (ex_at1))) rfl ?_
                refine jx_ar (pc_q := 57) (st_q := [.int (i32 (1)), .int (i32 (at1)), .ref 66]) rfl rfl rfl rfl ?_
                refine jx_add (pc_q := 58) rfl rfl ?_
                refine jr_put (pc_q := 61) (i := 10) (z := (at1 + 1)) rfl rfl (by decide) rfl rfl rfl rfl rfl rfl ?_
                have hW93 : Wk (uG Gx 10 ((at1 + 1))) Ax := Wk_g hWx (show (0 : Int) ≤ (at1 + 1) by omega) (show (at1 + 1) ≤ (3002 : Int) by omega)
                have hF94 := Fr_g (z := (at1 + 1)) (i := 10) hFx (by decide)
                refine jx_go (tg := 4) rfl rfl ?_
                exact ih4 _ (by omega) L92 (uG Gx 10 ((at1 + 1))) Ax ((n + (1))) ((at1 + 1)) (A 0 ((at1 + 1)).toNat) (y90) rfl gL92_0 gL92_1 gL92_2 hW93 hF94 (rfl) ((congrFun (hFx.2 0 rfl) _)) (by omega) (by omega) (by omega) (by omega)
              · have _q : True := trivial
                refine jx_ar (pc_q := 38) (st_q := .long ((i32 (r81)).toInt64) :: [.long (y80)]) rfl rfl rfl rfl ?_
                obtain ⟨y95, ey95⟩ : ∃ q : Int64, q = (i32 (r81)).toInt64 := ⟨_, rfl⟩
                rw [← ey95]
                refine jx_ar (pc_q := 39) (st_q := .long ((y80 : Int64) + (y95)) :: []) rfl rfl rfl rfl ?_
                obtain ⟨y96, ey96⟩ : ∃ q : Int64, q = (y80 : Int64) + (y95) := ⟨_, rfl⟩
                rw [← ey96]
                refine jx_hp (pc_q := 42) (st_q := [.long (48), .long (y96)]) rfl rfl rfl rfl rfl rfl ?_
                refine jx_ar (pc_q := 43) (st_q := .long ((y96 : Int64) - (48)) :: []) rfl rfl rfl rfl ?_
                obtain ⟨y97, ey97⟩ : ∃ q : Int64, q = (y96 : Int64) - (48) := ⟨_, rfl⟩
                rw [← ey97]
                refine jx_go (tg := 47) rfl rfl ?_
                refine jx_ld (pc_q := 48) (l_q := jSto2 L 2 (.long (y97))) (st_q := []) rfl rfl ?_
                obtain ⟨L98, eL98⟩ : ∃ q, q = jSto2 L 2 (.long (y97)) := ⟨_, rfl⟩
                rw [← eL98]
                have gL98_0 : jGet L98 0 = some (.ref 66) := eL98 ▸ jg_ne2 (by decide) (by decide) gL_0 (.inl rfl)
                have gL98_1 : jGet L98 1 = some (.int (i32 (n))) := eL98 ▸ jg_ne2 (by decide) (by decide) gL_1 (.inl rfl)
                have gL98_2 : jGet L98 2 = some (.long (y97)) := eL98 ▸ jg_eq2
                refine jx_inc (pc_q := 51) (l_q := jSto1 L98 1 (.int (i32 ((n + (1)))))) (x := n) rfl gL98_1 (by decide) rfl rfl ?_
                obtain ⟨L99, eL99⟩ : ∃ q, q = jSto1 L98 1 (.int (i32 ((n + (1))))) := ⟨_, rfl⟩
                rw [← eL99]
                have gL99_0 : jGet L99 0 = some (.ref 66) := eL99 ▸ jg_ne (by decide) gL98_0 rfl
                have gL99_2 : jGet L99 2 = some (.long (y97)) := eL99 ▸ jg_nel (by decide) gL98_2 (by decide)
                have gL99_1 : jGet L99 1 = some (.int (i32 ((n + (1))))) := eL99 ▸ jg_eq
                refine jx_ld (pc_q := 52) (l_q := L99) (st_q := [.ref 66]) rfl (jl_aloadn gL99_0) ?_
                refine jx_ar (pc_q := 53) (st_q := [.ref 66, .ref 66]) rfl rfl rfl rfl ?_
                refine jr_get (pc_q := 56) (i := 10) (v := .int (i32 (at1))) rfl rfl (by decide) (rFv_eq (by decide) (show Gx 10 = at1 from (ex_at1))) rfl ?_
                refine jx_ar (pc_q := 57) (st_q := [.int (i32 (1)), .int (i32 (at1)), .ref 66]) rfl rfl rfl rfl ?_
                refine jx_add (pc_q := 58) rfl rfl ?_
                refine jr_put (pc_q := 61) (i := 10) (z := (at1 + 1)) rfl rfl (by decide) rfl rfl rfl rfl rfl rfl ?_
                have hW100 : Wk (uG Gx 10 ((at1 + 1))) Ax := Wk_g hWx (show (0 : Int) ≤ (at1 + 1) by omega) (show (at1 + 1) ≤ (3002 : Int) by omega)
                have hF101 := Fr_g (z := (at1 + 1)) (i := 10) hFx (by decide)
                refine jx_go (tg := 4) rfl rfl ?_
                exact ih4 _ (by omega) L99 (uG Gx 10 ((at1 + 1))) Ax ((n + (1))) ((at1 + 1)) (A 0 ((at1 + 1)).toNat) (y97) rfl gL99_0 gL99_1 gL99_2 hW100 hF101 (rfl) ((congrFun (hFx.2 0 rfl) _)) (by omega) (by omega) (by omega) (by omega)
        · have _q : True := trivial
          refine jx_if_eq (pc_q := 18) (tg := 64) rfl rfl rfl (by decide) (by decide) (fun h102 => ?_) (fun h102 => ?_)
          · have _q := h102
            refine jx_ld (pc_q := 65) (l_q := L) (st_q := [.int (i32 (n))]) rfl (jl_iloadn gL_1) ?_
            refine jx_ar (pc_q := 67) (st_q := [.int (i32 (10)), .int (i32 (n))]) rfl rfl rfl rfl ?_
            refine jx_icmp_gt (pc_q := 70) (tg := 82) rfl rfl rfl (Int.le_trans (by decide : (-2147483648 : Int) ≤ -2147483648) rx_n.1) (Int.le_trans rx_n.2 (by decide : (2147483647 : Int) ≤ 2147483647)) (by decide) (by decide) (fun h103 => ?_) (fun h103 => ?_)
            · have _q := h103
              refine jx_ar (pc_q := 83) (st_q := [.int (i32 (0))]) rfl rfl rfl rfl ?_
              refine jx_ld (pc_q := 85) (l_q := jSto1 L 4 (.int (i32 (0)))) (st_q := []) rfl rfl ?_
              obtain ⟨L104, eL104⟩ : ∃ q, q = jSto1 L 4 (.int (i32 (0))) := ⟨_, rfl⟩
              rw [← eL104]
              have gL104_0 : jGet L104 0 = some (.ref 66) := eL104 ▸ jg_ne (by decide) gL_0 rfl
              have gL104_1 : jGet L104 1 = some (.int (i32 (n))) := eL104 ▸ jg_ne (by decide) gL_1 rfl
              have gL104_2 : jGet L104 2 = some (.long (v)) := eL104 ▸ jg_nel (by decide) gL_2 (by decide)
              have gL104_4 : jGet L104 4 = some (.int (i32 (0))) := eL104 ▸ jg_eq
              refine jx_ld (pc_q := 86) (l_q := L104) (st_q := [.ref 66]) rfl (jl_aloadn gL104_0) ?_
              refine jx_ld (pc_q := 88) (l_q := L104) (st_q := [.int (i32 (0)), .ref 66]) rfl (jl_iload gL104_4) ?_
              refine jx_if_eq (pc_q := 91) (tg := 95) rfl rfl rfl (by decide) (by decide) (fun h105 => ?_) (fun h105 => ?_)
              · have _q := h105
                refine jx_ar (pc_q := 96) (st_q := [.int (i32 (5)), .ref 66]) rfl rfl rfl rfl ?_
                refine jr_put (pc_q := 99) (i := 11) (z := 5) rfl rfl (by decide) rfl rfl rfl rfl rfl rfl ?_
                have hW106 : Wk (uG Gx 11 (5)) Ax := Wk_g hWx (show (0 : Int) ≤ 5 by omega) (show 5 ≤ (5 : Int) by omega)
                have hF107 := Fr_g (z := 5) (i := 11) hFx (by decide)
                refine jx_ld (pc_q := 100) (l_q := L104) (st_q := [.ref 66]) rfl (jl_aloadn gL104_0) ?_
                refine jx_ld (pc_q := 102) (l_q := L104) (st_q := [.int (i32 (0)), .ref 66]) rfl (jl_iload gL104_4) ?_
                refine jx_if_eq (pc_q := 105) (tg := 110) rfl rfl rfl (by decide) (by decide) (fun h108 => ?_) (fun h108 => ?_)
                · have _q := h108
                  refine jx_ar (pc_q := 111) (st_q := [.int (i32 (0)), .ref 66]) rfl rfl rfl rfl ?_
                  refine jr_put (pc_q := 114) (i := 13) (z := 0) rfl rfl (by decide) rfl rfl rfl rfl rfl rfl ?_
                  have hW109 : Wk (uG (uG Gx 11 (5)) 13 (0)) Ax := Wk_g hW106 (show (-2147483648 : Int) ≤ 0 by omega) (show 0 ≤ (2147483647 : Int) by omega)
                  have hF110 := Fr_g (z := 0) (i := 13) hF107 (by decide)
                  refine jx_rt (v := none) rfl rfl rfl rfl rfl rfl ?_
                  exact ⟨_, _, at1, 5, rfl, rfl, hW109, hF110, (ex_at1), rfl, by omega, by omega, by omega, trivial⟩
                · have _q := h108
                  exact absurd h108 (by omega)
              · have _q := h105
                exact absurd h105 (by omega)
            · have _q := h103
              refine jx_ld (pc_q := 71) (l_q := L) (st_q := [.long (v)]) rfl (jl_lloadn gL_2) ?_
              refine jx_hp (pc_q := 74) (st_q := [.long (2147483647), .long (v)]) rfl rfl rfl rfl rfl rfl ?_
              refine jx_lcmp (pc_q := 75) rfl rfl (fun r111 hr111 => ?_)
              refine jx_if_gt (pc_q := 78) (tg := 82) rfl rfl rfl (by omega) (by omega) (fun h112 => ?_) (fun h112 => ?_)
              · have _q := h112
                refine jx_ar (pc_q := 83) (st_q := [.int (i32 (0))]) rfl rfl rfl rfl ?_
                refine jx_ld (pc_q := 85) (l_q := jSto1 L 4 (.int (i32 (0)))) (st_q := []) rfl rfl ?_
                obtain ⟨L113, eL113⟩ : ∃ q, q = jSto1 L 4 (.int (i32 (0))) := ⟨_, rfl⟩
                rw [← eL113]
                have gL113_0 : jGet L113 0 = some (.ref 66) := eL113 ▸ jg_ne (by decide) gL_0 rfl
                have gL113_1 : jGet L113 1 = some (.int (i32 (n))) := eL113 ▸ jg_ne (by decide) gL_1 rfl
                have gL113_2 : jGet L113 2 = some (.long (v)) := eL113 ▸ jg_nel (by decide) gL_2 (by decide)
                have gL113_4 : jGet L113 4 = some (.int (i32 (0))) := eL113 ▸ jg_eq
                refine jx_ld (pc_q := 86) (l_q := L113) (st_q := [.ref 66]) rfl (jl_aloadn gL113_0) ?_
                refine jx_ld (pc_q := 88) (l_q := L113) (st_q := [.int (i32 (0)), .ref 66]) rfl (jl_iload gL113_4) ?_
                refine jx_if_eq (pc_q := 91) (tg := 95) rfl rfl rfl (by decide) (by decide) (fun h114 => ?_) (fun h114 => ?_)
                · have _q := h114
                  refine jx_ar (pc_q := 96) (st_q := [.int (i32 (5)), .ref 66]) rfl rfl rfl rfl ?_
                  refine jr_put (pc_q := 99) (i := 11) (z := 5) rfl rfl (by decide) rfl rfl rfl rfl rfl rfl ?_
                  have hW115 : Wk (uG Gx 11 (5)) Ax := Wk_g hWx (show (0 : Int) ≤ 5 by omega) (show 5 ≤ (5 : Int) by omega)
                  have hF116 := Fr_g (z := 5) (i := 11) hFx (by decide)
                  refine jx_ld (pc_q := 100) (l_q := L113) (st_q := [.ref 66]) rfl (jl_aloadn gL113_0) ?_
                  refine jx_ld (pc_q := 102) (l_q := L113) (st_q := [.int (i32 (0)), .ref 66]) rfl (jl_iload gL113_4) ?_
                  refine jx_if_eq (pc_q := 105) (tg := 110) rfl rfl rfl (by decide) (by decide) (fun h117 => ?_) (fun h117 => ?_)
                  · have _q := h117
                    refine jx_ar (pc_q := 111) (st_q := [.int (i32 (0)), .ref 66]) rfl rfl rfl rfl ?_
                    refine jr_put (pc_q := 114) (i := 13) (z := 0) rfl rfl (by decide) rfl rfl rfl rfl rfl rfl ?_
                    have hW118 : Wk (uG (uG Gx 11 (5)) 13 (0)) Ax := Wk_g hW115 (show (-2147483648 : Int) ≤ 0 by omega) (show 0 ≤ (2147483647 : Int) by omega)
                    have hF119 := Fr_g (z := 0) (i := 13) hF116 (by decide)
                    refine jx_rt (v := none) rfl rfl rfl rfl rfl rfl ?_
                    exact ⟨_, _, at1, 5, rfl, rfl, hW118, hF119, (ex_at1), rfl, by omega, by omega, by omega, trivial⟩
                  · have _q := h117
                    exact absurd h117 (by omega)
                · have _q := h114
                  exact absurd h114 (by omega)
              · have _q := h112
                refine jx_ar (pc_q := 79) (st_q := [.int (i32 (1))]) rfl rfl rfl rfl ?_
                refine jx_go (tg := 83) rfl rfl ?_
                refine jx_ld (pc_q := 85) (l_q := jSto1 L 4 (.int (i32 (1)))) (st_q := []) rfl rfl ?_
                obtain ⟨L120, eL120⟩ : ∃ q, q = jSto1 L 4 (.int (i32 (1))) := ⟨_, rfl⟩
                rw [← eL120]
                have gL120_0 : jGet L120 0 = some (.ref 66) := eL120 ▸ jg_ne (by decide) gL_0 rfl
                have gL120_1 : jGet L120 1 = some (.int (i32 (n))) := eL120 ▸ jg_ne (by decide) gL_1 rfl
                have gL120_2 : jGet L120 2 = some (.long (v)) := eL120 ▸ jg_nel (by decide) gL_2 (by decide)
                have gL120_4 : jGet L120 4 = some (.int (i32 (1))) := eL120 ▸ jg_eq
                refine jx_ld (pc_q := 86) (l_q := L120) (st_q := [.ref 66]) rfl (jl_aloadn gL120_0) ?_
                refine jx_ld (pc_q := 88) (l_q := L120) (st_q := [.int (i32 (1)), .ref 66]) rfl (jl_iload gL120_4) ?_
                refine jx_if_eq (pc_q := 91) (tg := 95) rfl rfl rfl (by decide) (by decide) (fun h121 => ?_) (fun h121 => ?_)
                · have _q := h121
                  exact absurd h121 (by omega)
                · have _q := h121
                  refine jx_ar (pc_q := 92) (st_q := [.int (i32 (3)), .ref 66]) rfl rfl rfl rfl ?_
                  refine jx_go (tg := 96) rfl rfl ?_
                  refine jr_put (pc_q := 99) (i := 11) (z := 3) rfl rfl (by decide) rfl rfl rfl rfl rfl rfl ?_
                  have hW122 : Wk (uG Gx 11 (3)) Ax := Wk_g hWx (show (0 : Int) ≤ 3 by omega) (show 3 ≤ (5 : Int) by omega)
                  have hF123 := Fr_g (z := 3) (i := 11) hFx (by decide)
                  refine jx_ld (pc_q := 100) (l_q := L120) (st_q := [.ref 66]) rfl (jl_aloadn gL120_0) ?_
                  refine jx_ld (pc_q := 102) (l_q := L120) (st_q := [.int (i32 (1)), .ref 66]) rfl (jl_iload gL120_4) ?_
                  refine jx_if_eq (pc_q := 105) (tg := 110) rfl rfl rfl (by decide) (by decide) (fun h124 => ?_) (fun h124 => ?_)
                  · have _q := h124
                    exact absurd h124 (by omega)
                  · have _q := h124
                    refine jx_ld (pc_q := 106) (l_q := L120) (st_q := [.long (v), .ref 66]) rfl (jl_lloadn gL120_2) ?_
                    refine jx_l2i (pc_q := 107) rfl rfl (fun r125 hr125 => ?_)
                    refine jx_go (tg := 111) rfl rfl ?_
                    refine jr_put (pc_q := 114) (i := 13) (z := r125) rfl rfl (by decide) rfl rfl rfl rfl rfl rfl ?_
                    have hW126 : Wk (uG (uG Gx 11 (3)) 13 (r125)) Ax := Wk_g hW122 (show (-2147483648 : Int) ≤ r125 by omega) (show r125 ≤ (2147483647 : Int) by omega)
                    have hF127 := Fr_g (z := r125) (i := 13) hF123 (by decide)
                    refine jx_rt (v := none) rfl rfl rfl rfl rfl rfl ?_
                    exact ⟨_, _, at1, 3, rfl, rfl, hW126, hF127, (ex_at1), rfl, by omega, by omega, by omega, trivial⟩
          · have _q := h102
            exact absurd h102 (by omega)
  refine jx_ar (pc_q := 1) (st_q := [.int (i32 (0))]) rfl rfl rfl rfl ?_
  refine jx_ld (pc_q := 2) (l_q := jSto1 [(0, .ref 66)] 1 (.int (i32 (0)))) (st_q := []) rfl rfl ?_
  obtain ⟨L128, eL128⟩ : ∃ q, q = jSto1 [(0, .ref 66)] 1 (.int (i32 (0))) := ⟨_, rfl⟩
  rw [← eL128]
  have gL128_0 : jGet L128 0 = some (.ref 66) := eL128 ▸ jg_ne (by decide) (rfl : jGet [(0, .ref 66)] 0 = some (.ref 66)) rfl
  have gL128_1 : jGet L128 1 = some (.int (i32 (0))) := eL128 ▸ jg_eq
  refine jx_ar (pc_q := 3) (st_q := [.long (Int64.ofNat 0)]) rfl rfl rfl rfl ?_
  refine jx_ld (pc_q := 4) (l_q := jSto2 L128 2 (.long (Int64.ofNat 0))) (st_q := []) rfl rfl ?_
  obtain ⟨L129, eL129⟩ : ∃ q, q = jSto2 L128 2 (.long (Int64.ofNat 0)) := ⟨_, rfl⟩
  rw [← eL129]
  have gL129_0 : jGet L129 0 = some (.ref 66) := eL129 ▸ jg_ne2 (by decide) (by decide) gL128_0 (.inl rfl)
  have gL129_1 : jGet L129 1 = some (.int (i32 (0))) := eL129 ▸ jg_ne2 (by decide) (by decide) gL128_1 (.inl rfl)
  have gL129_2 : jGet L129 2 = some (.long (Int64.ofNat 0)) := eL129 ▸ jg_eq2
  exact at_4 _ L129 G A (0) (at0) (tx) (Int64.ofNat 0) rfl gL129_0 gL129_1 gL129_2 hW hF0 ((e_at0)) ((e_tx)) (by omega) (by omega) (by omega) (by omega)
set_option maxRecDepth 20000 in
set_option maxHeartbeats 4000000 in
theorem c_signToken {X : jX} {dd : Nat} {c0 c1 : jC} {G : Nat → Int} {A : Nat → Nat → Int} {T : jH} {c : Int} {ln le at0 : Int} (hd : 2 ≤ dd) (hW : Wk G A) (e_ln : G 9 = ln) (e_le : A 4 (ln).toNat = le) (e_at0 : G 10 = at0) (h_c : (-2147483648 : Int) ≤ c ∧ c ≤ 2147483647) (p_0 : at0 < le) (p_1 : 0 ≤ c ∧ c ≤ 126) : wk X dd 266 [.ref 66, .int (i32 c)] (rV c0 c1 G A T) (fun o V_q => ∃ (G_q : Nat → Int) (A_q : Nat → Nat → Int) (at2 : Int) (tk2 : Int), V_q = rV c0 c1 G_q A_q T ∧ o = .inl none ∧ Wk G_q A_q ∧ Fr [10, 11, 13] [] G A G_q A_q ∧ G_q 10 = at2 ∧ G_q 11 = tk2 ∧ (at0 < at2) ∧ (at2 ≤ le) ∧ (1 ≤ tk2) ∧ True) := by
  obtain ⟨d, rfl⟩ : ∃ d, dd = d + 1 := ⟨dd - 1, by omega⟩
  refine wk_of (e := jm266) rfl (Nat.le_of_ble_eq_true rfl) ?_
  show wj X d jm266 (0, [(0, .ref 66), (1, .int (i32 (c)))], [], rV c0 c1 G A T) _
  have hF0 : Fr [10, 11, 13] [] G A G A := Fr_rf
  have b_ln : (0 : Int) ≤ ln ∧ ln ≤ 3000 := e_ln ▸ hW.1 9
  have b_le : (0 : Int) ≤ le ∧ le ≤ 3000 := e_le ▸ hW.2 4 _
  have b_at0 : (0 : Int) ≤ at0 ∧ at0 ≤ 3002 := e_at0 ▸ hW.1 10
  refine jx_ld (pc_q := 1) (l_q := [(0, .ref 66), (1, .int (i32 (c)))]) (st_q := [.int (i32 (c))]) rfl (jl_iloadn rfl) ?_
  refine jx_ld (pc_q := 2) (l_q := [(0, .ref 66), (1, .int (i32 (c)))]) (st_q := [.ref 66, .int (i32 (c))]) rfl (jl_aloadn rfl) ?_
  refine jx_ld (pc_q := 3) (l_q := [(0, .ref 66), (1, .int (i32 (c)))]) (st_q := [.ref 66, .ref 66, .int (i32 (c))]) rfl (jl_aloadn rfl) ?_
  refine jr_get (pc_q := 6) (i := 10) (v := .int (i32 (at0))) rfl rfl (by decide) (rFv_eq (by decide) (show G 10 = at0 from (e_at0))) rfl ?_
  refine jx_ar (pc_q := 7) (st_q := [.int (i32 (1)), .int (i32 (at0)), .ref 66, .int (i32 (c))]) rfl rfl rfl rfl ?_
  refine jx_add (pc_q := 8) rfl rfl ?_
  have b1 : (0 : Int) ≤ A 0 ((at0 + 1)).toNat ∧ A 0 ((at0 + 1)).toNat ≤ 126 := hW.2 0 _
  refine jx_vr (pc_q := 11) (as := [.int (i32 ((at0 + 1)))]) (st := [.int (i32 (c))]) rfl rfl rfl rfl ⟨rfl, rfl, Nat.le_of_ble_eq_true rfl⟩ rfl rfl (c_sign (dd := d) (hd := by omega) (hW := hW) (k := (at0 + 1)) (ln := ln) (e_ln := show G 9 = ln from (e_ln)) (le := le) (e_le := show A 4 (ln).toNat = le from (e_le)) (tx := A 0 ((at0 + 1)).toNat) (e_tx := show A 0 ((at0 + 1)).toNat = A 0 ((at0 + 1)).toNat from rfl)  (h_k := ⟨(by omega), (by omega)⟩)  (p_0 := by omega)) (fun o V_q hq => ?_)
  obtain ⟨r2, rfl, rfl, b3, q4⟩ := hq
  refine .inr ⟨_, rfl, ?_⟩
  rcases q4 with ⟨a5, a6⟩ | ⟨a7, a8⟩
  · have _q : True := trivial
    refine jx_st (pc_q := 14) (as := [.int (i32 (c)), .int (i32 (r2))]) (st := []) rfl rfl ⟨rfl, Nat.le_of_ble_eq_true rfl⟩ rfl rfl rfl (c_pair (dd := d) (hd := by omega) (c := c) (e := r2)   (h_c := ⟨(Int.le_trans (by decide : (-2147483648 : Int) ≤ -2147483648) h_c.1), (Int.le_trans h_c.2 (by decide : (2147483647 : Int) ≤ 2147483647))⟩) (h_e := ⟨(Int.le_trans (by decide : (-2147483648 : Int) ≤ -2147483648) b3.1), (Int.le_trans b3.2 (by decide : (2147483647 : Int) ≤ 2147483647))⟩)  ) (fun o V_q hq => ?_)
    obtain ⟨r9, rfl, rfl, b10, p11, p12, -⟩ := hq
    refine .inr ⟨_, rfl, ?_⟩
    refine jx_ld (pc_q := 15) (l_q := jSto1 [(0, .ref 66), (1, .int (i32 (c)))] 2 (.int (i32 (r9)))) (st_q := []) rfl rfl ?_
    obtain ⟨L14, eL14⟩ : ∃ q, q = jSto1 [(0, .ref 66), (1, .int (i32 (c)))] 2 (.int (i32 (r9))) := ⟨_, rfl⟩
    rw [← eL14]
    have gL14_0 : jGet L14 0 = some (.ref 66) := eL14 ▸ jg_ne (by decide) (rfl : jGet [(0, .ref 66), (1, .int (i32 (c)))] 0 = some (.ref 66)) rfl
    have gL14_1 : jGet L14 1 = some (.int (i32 (c))) := eL14 ▸ jg_ne (by decide) (rfl : jGet [(0, .ref 66), (1, .int (i32 (c)))] 1 = some (.int (i32 (c)))) rfl
    have gL14_2 : jGet L14 2 = some (.int (i32 (r9))) := eL14 ▸ jg_eq
    refine jx_hp (pc_q := 18) (st_q := [.ref 30]) rfl rfl rfl rfl rfl rfl ?_
    refine jx_ld (pc_q := 19) (l_q := L14) (st_q := [.int (i32 (c)), .ref 30]) rfl (jl_iloadn gL14_1) ?_
    refine jx_si (pc_q := 22) rfl rfl rfl ⟨Nat.le_of_ble_eq_true rfl, (by decide)⟩ (by omega) (by omega) rfl (fun r15 hr15 => ?_)
    refine jx_if_ge (pc_q := 25) (tg := 31) rfl rfl rfl (by omega) (by omega) (fun h16 => ?_) (fun h16 => ?_)
    · have _q := h16
      refine jx_ar (pc_q := 32) (st_q := [.int (i32 (1))]) rfl rfl rfl rfl ?_
      refine jx_go (tg := 36) rfl rfl ?_
      refine jx_ld (pc_q := 37) (l_q := jSto1 L14 3 (.int (i32 (1)))) (st_q := []) rfl rfl ?_
      obtain ⟨L17, eL17⟩ : ∃ q, q = jSto1 L14 3 (.int (i32 (1))) := ⟨_, rfl⟩
      rw [← eL17]
      have gL17_0 : jGet L17 0 = some (.ref 66) := eL17 ▸ jg_ne (by decide) gL14_0 rfl
      have gL17_1 : jGet L17 1 = some (.int (i32 (c))) := eL17 ▸ jg_ne (by decide) gL14_1 rfl
      have gL17_2 : jGet L17 2 = some (.int (i32 (r9))) := eL17 ▸ jg_ne (by decide) gL14_2 rfl
      have gL17_3 : jGet L17 3 = some (.int (i32 (1))) := eL17 ▸ jg_eq
      refine jx_ld (pc_q := 38) (l_q := L17) (st_q := [.ref 66]) rfl (jl_aloadn gL17_0) ?_
      refine jx_ld (pc_q := 39) (l_q := L17) (st_q := [.int (i32 (r9)), .ref 66]) rfl (jl_iloadn gL17_2) ?_
      refine jx_if_gt (pc_q := 42) (tg := 46) rfl rfl rfl (Int.le_trans (by decide : (-2147483648 : Int) ≤ -2147483648) b10.1) (Int.le_trans b10.2 (by decide : (2147483647 : Int) ≤ 2147483647)) (fun h18 => ?_) (fun h18 => ?_)
      · have _q := h18
        refine jx_ar (pc_q := 47) (st_q := [.int (i32 (4)), .ref 66]) rfl rfl rfl rfl ?_
        refine jx_go (tg := 51) rfl rfl ?_
        refine jr_put (pc_q := 54) (i := 11) (z := 4) rfl rfl (by decide) rfl rfl rfl rfl rfl rfl ?_
        have hW19 : Wk (uG G 11 (4)) A := Wk_g hW (show (0 : Int) ≤ 4 by omega) (show 4 ≤ (5 : Int) by omega)
        have hF20 := Fr_g (z := 4) (i := 11) hF0 (by decide)
        refine jx_ld (pc_q := 55) (l_q := L17) (st_q := [.ref 66]) rfl (jl_aloadn gL17_0) ?_
        refine jx_ld (pc_q := 56) (l_q := L17) (st_q := [.int (i32 (r9)), .ref 66]) rfl (jl_iloadn gL17_2) ?_
        refine jx_if_le (pc_q := 59) (tg := 63) rfl rfl rfl (Int.le_trans (by decide : (-2147483648 : Int) ≤ -2147483648) b10.1) (Int.le_trans b10.2 (by decide : (2147483647 : Int) ≤ 2147483647)) (fun h21 => ?_) (fun h21 => ?_)
        · have _q := h21
          refine jx_ld (pc_q := 64) (l_q := L17) (st_q := [.int (i32 (c)), .ref 66]) rfl (jl_iloadn gL17_1) ?_
          refine jr_put (pc_q := 67) (i := 13) (z := c) rfl rfl (by decide) rfl rfl rfl rfl rfl rfl ?_
          have hW22 : Wk (uG (uG G 11 (4)) 13 (c)) A := Wk_g hW19 (show (-2147483648 : Int) ≤ c by omega) (show c ≤ (2147483647 : Int) by omega)
          have hF23 := Fr_g (z := c) (i := 13) hF20 (by decide)
          refine jx_ld (pc_q := 68) (l_q := L17) (st_q := [.ref 66]) rfl (jl_aloadn gL17_0) ?_
          refine jx_ld (pc_q := 69) (l_q := L17) (st_q := [.int (i32 (r9)), .ref 66]) rfl (jl_iloadn gL17_2) ?_
          refine jx_if_le (pc_q := 72) (tg := 81) rfl rfl rfl (Int.le_trans (by decide : (-2147483648 : Int) ≤ -2147483648) b10.1) (Int.le_trans b10.2 (by decide : (2147483647 : Int) ≤ 2147483647)) (fun h24 => ?_) (fun h24 => ?_)
          · have _q := h24
            refine jx_ld (pc_q := 82) (l_q := L17) (st_q := [.ref 66, .ref 66]) rfl (jl_aloadn gL17_0) ?_
            refine jr_get (pc_q := 85) (i := 10) (v := .int (i32 (at0))) rfl rfl (by decide) (rFv_eq (by decide) (show (uG (uG G 11 (4)) 13 (c)) 10 = at0 from (e_at0))) rfl ?_
            refine jx_ar (pc_q := 86) (st_q := [.int (i32 (1)), .int (i32 (at0)), .ref 66]) rfl rfl rfl rfl ?_
            refine jx_add (pc_q := 87) rfl rfl ?_
            refine jr_put (pc_q := 90) (i := 10) (z := (at0 + 1)) rfl rfl (by decide) rfl rfl rfl rfl rfl rfl ?_
            have hW25 : Wk (uG (uG (uG G 11 (4)) 13 (c)) 10 ((at0 + 1))) A := Wk_g hW22 (show (0 : Int) ≤ (at0 + 1) by omega) (show (at0 + 1) ≤ (3002 : Int) by omega)
            have hF26 := Fr_g (z := (at0 + 1)) (i := 10) hF23 (by decide)
            refine jx_rt (v := none) rfl rfl rfl rfl rfl rfl ?_
            exact ⟨_, _, (at0 + 1), 4, rfl, rfl, hW25, hF26, rfl, rfl, by omega, by omega, by omega, trivial⟩
          · have _q := h24
            refine jx_ld (pc_q := 73) (l_q := L17) (st_q := [.ref 66, .ref 66]) rfl (jl_aloadn gL17_0) ?_
            refine jr_get (pc_q := 76) (i := 10) (v := .int (i32 (at0))) rfl rfl (by decide) (rFv_eq (by decide) (show (uG (uG G 11 (4)) 13 (c)) 10 = at0 from (e_at0))) rfl ?_
            refine jx_ar (pc_q := 77) (st_q := [.int (i32 (2)), .int (i32 (at0)), .ref 66]) rfl rfl rfl rfl ?_
            refine jx_add (pc_q := 78) rfl rfl ?_
            refine jx_go (tg := 87) rfl rfl ?_
            refine jr_put (pc_q := 90) (i := 10) (z := (at0 + 2)) rfl rfl (by decide) rfl rfl rfl rfl rfl rfl ?_
            have hW27 : Wk (uG (uG (uG G 11 (4)) 13 (c)) 10 ((at0 + 2))) A := Wk_g hW22 (show (0 : Int) ≤ (at0 + 2) by omega) (show (at0 + 2) ≤ (3002 : Int) by omega)
            have hF28 := Fr_g (z := (at0 + 2)) (i := 10) hF23 (by decide)
            refine jx_rt (v := none) rfl rfl rfl rfl rfl rfl ?_
            exact ⟨_, _, (at0 + 2), 4, rfl, rfl, hW27, hF28, rfl, rfl, by omega, by omega, by omega, trivial⟩
        · have _q := h21
          refine jx_ld (pc_q := 60) (l_q := L17) (st_q := [.int (i32 (r9)), .ref 66]) rfl (jl_iloadn gL17_2) ?_
          refine jx_go (tg := 64) rfl rfl ?_
          refine jr_put (pc_q := 67) (i := 13) (z := r9) rfl rfl (by decide) rfl rfl rfl rfl rfl rfl ?_
          have hW29 : Wk (uG (uG G 11 (4)) 13 (r9)) A := Wk_g hW19 (show (-2147483648 : Int) ≤ r9 by omega) (show r9 ≤ (2147483647 : Int) by omega)
          have hF30 := Fr_g (z := r9) (i := 13) hF20 (by decide)
          refine jx_ld (pc_q := 68) (l_q := L17) (st_q := [.ref 66]) rfl (jl_aloadn gL17_0) ?_
          refine jx_ld (pc_q := 69) (l_q := L17) (st_q := [.int (i32 (r9)), .ref 66]) rfl (jl_iloadn gL17_2) ?_
          refine jx_if_le (pc_q := 72) (tg := 81) rfl rfl rfl (Int.le_trans (by decide : (-2147483648 : Int) ≤ -2147483648) b10.1) (Int.le_trans b10.2 (by decide : (2147483647 : Int) ≤ 2147483647)) (fun h31 => ?_) (fun h31 => ?_)
          · have _q := h31
            refine jx_ld (pc_q := 82) (l_q := L17) (st_q := [.ref 66, .ref 66]) rfl (jl_aloadn gL17_0) ?_
            refine jr_get (pc_q := 85) (i := 10) (v := .int (i32 (at0))) rfl rfl (by decide) (rFv_eq (by decide) (show (uG (uG G 11 (4)) 13 (r9)) 10 = at0 from (e_at0))) rfl ?_
            refine jx_ar (pc_q := 86) (st_q := [.int (i32 (1)), .int (i32 (at0)), .ref 66]) rfl rfl rfl rfl ?_
            refine jx_add (pc_q := 87) rfl rfl ?_
            refine jr_put (pc_q := 90) (i := 10) (z := (at0 + 1)) rfl rfl (by decide) rfl rfl rfl rfl rfl rfl ?_
            have hW32 : Wk (uG (uG (uG G 11 (4)) 13 (r9)) 10 ((at0 + 1))) A := Wk_g hW29 (show (0 : Int) ≤ (at0 + 1) by omega) (show (at0 + 1) ≤ (3002 : Int) by omega)
            have hF33 := Fr_g (z := (at0 + 1)) (i := 10) hF30 (by decide)
            refine jx_rt (v := none) rfl rfl rfl rfl rfl rfl ?_
            exact ⟨_, _, (at0 + 1), 4, rfl, rfl, hW32, hF33, rfl, rfl, by omega, by omega, by omega, trivial⟩
          · have _q := h31
            refine jx_ld (pc_q := 73) (l_q := L17) (st_q := [.ref 66, .ref 66]) rfl (jl_aloadn gL17_0) ?_
            refine jr_get (pc_q := 76) (i := 10) (v := .int (i32 (at0))) rfl rfl (by decide) (rFv_eq (by decide) (show (uG (uG G 11 (4)) 13 (r9)) 10 = at0 from (e_at0))) rfl ?_
            refine jx_ar (pc_q := 77) (st_q := [.int (i32 (2)), .int (i32 (at0)), .ref 66]) rfl rfl rfl rfl ?_
            refine jx_add (pc_q := 78) rfl rfl ?_
            refine jx_go (tg := 87) rfl rfl ?_
            refine jr_put (pc_q := 90) (i := 10) (z := (at0 + 2)) rfl rfl (by decide) rfl rfl rfl rfl rfl rfl ?_
            have hW34 : Wk (uG (uG (uG G 11 (4)) 13 (r9)) 10 ((at0 + 2))) A := Wk_g hW29 (show (0 : Int) ≤ (at0 + 2) by omega) (show (at0 + 2) ≤ (3002 : Int) by omega)
            have hF35 := Fr_g (z := (at0 + 2)) (i := 10) hF30 (by decide)
            refine jx_rt (v := none) rfl rfl rfl rfl rfl rfl ?_
            exact ⟨_, _, (at0 + 2), 4, rfl, rfl, hW34, hF35, rfl, rfl, by omega, by omega, by omega, trivial⟩
      · have _q := h18
        refine jx_ld (pc_q := 43) (l_q := L17) (st_q := [.int (i32 (1)), .ref 66]) rfl (jl_iloadn gL17_3) ?_
        refine jx_if_eq (pc_q := 46) (tg := 50) rfl rfl rfl (by decide) (by decide) (fun h36 => ?_) (fun h36 => ?_)
        · have _q := h36
          exact absurd h36 (by omega)
        · have _q := h36
          refine jx_ar (pc_q := 47) (st_q := [.int (i32 (4)), .ref 66]) rfl rfl rfl rfl ?_
          refine jx_go (tg := 51) rfl rfl ?_
          refine jr_put (pc_q := 54) (i := 11) (z := 4) rfl rfl (by decide) rfl rfl rfl rfl rfl rfl ?_
          have hW37 : Wk (uG G 11 (4)) A := Wk_g hW (show (0 : Int) ≤ 4 by omega) (show 4 ≤ (5 : Int) by omega)
          have hF38 := Fr_g (z := 4) (i := 11) hF0 (by decide)
          refine jx_ld (pc_q := 55) (l_q := L17) (st_q := [.ref 66]) rfl (jl_aloadn gL17_0) ?_
          refine jx_ld (pc_q := 56) (l_q := L17) (st_q := [.int (i32 (r9)), .ref 66]) rfl (jl_iloadn gL17_2) ?_
          refine jx_if_le (pc_q := 59) (tg := 63) rfl rfl rfl (Int.le_trans (by decide : (-2147483648 : Int) ≤ -2147483648) b10.1) (Int.le_trans b10.2 (by decide : (2147483647 : Int) ≤ 2147483647)) (fun h39 => ?_) (fun h39 => ?_)
          · have _q := h39
            refine jx_ld (pc_q := 64) (l_q := L17) (st_q := [.int (i32 (c)), .ref 66]) rfl (jl_iloadn gL17_1) ?_
            refine jr_put (pc_q := 67) (i := 13) (z := c) rfl rfl (by decide) rfl rfl rfl rfl rfl rfl ?_
            have hW40 : Wk (uG (uG G 11 (4)) 13 (c)) A := Wk_g hW37 (show (-2147483648 : Int) ≤ c by omega) (show c ≤ (2147483647 : Int) by omega)
            have hF41 := Fr_g (z := c) (i := 13) hF38 (by decide)
            refine jx_ld (pc_q := 68) (l_q := L17) (st_q := [.ref 66]) rfl (jl_aloadn gL17_0) ?_
            refine jx_ld (pc_q := 69) (l_q := L17) (st_q := [.int (i32 (r9)), .ref 66]) rfl (jl_iloadn gL17_2) ?_
            refine jx_if_le (pc_q := 72) (tg := 81) rfl rfl rfl (Int.le_trans (by decide : (-2147483648 : Int) ≤ -2147483648) b10.1) (Int.le_trans b10.2 (by decide : (2147483647 : Int) ≤ 2147483647)) (fun h42 => ?_) (fun h42 => ?_)
            · have _q := h42
              refine jx_ld (pc_q := 82) (l_q := L17) (st_q := [.ref 66, .ref 66]) rfl (jl_aloadn gL17_0) ?_
              refine jr_get (pc_q := 85) (i := 10) (v := .int (i32 (at0))) rfl rfl (by decide) (rFv_eq (by decide) (show (uG (uG G 11 (4)) 13 (c)) 10 = at0 from (e_at0))) rfl ?_
              refine jx_ar (pc_q := 86) (st_q := [.int (i32 (1)), .int (i32 (at0)), .ref 66]) rfl rfl rfl rfl ?_
              refine jx_add (pc_q := 87) rfl rfl ?_
              refine jr_put (pc_q := 90) (i := 10) (z := (at0 + 1)) rfl rfl (by decide) rfl rfl rfl rfl rfl rfl ?_
              have hW43 : Wk (uG (uG (uG G 11 (4)) 13 (c)) 10 ((at0 + 1))) A := Wk_g hW40 (show (0 : Int) ≤ (at0 + 1) by omega) (show (at0 + 1) ≤ (3002 : Int) by omega)
              have hF44 := Fr_g (z := (at0 + 1)) (i := 10) hF41 (by decide)
              refine jx_rt (v := none) rfl rfl rfl rfl rfl rfl ?_
              exact ⟨_, _, (at0 + 1), 4, rfl, rfl, hW43, hF44, rfl, rfl, by omega, by omega, by omega, trivial⟩
            · have _q := h42
              refine jx_ld (pc_q := 73) (l_q := L17) (st_q := [.ref 66, .ref 66]) rfl (jl_aloadn gL17_0) ?_
              refine jr_get (pc_q := 76) (i := 10) (v := .int (i32 (at0))) rfl rfl (by decide) (rFv_eq (by decide) (show (uG (uG G 11 (4)) 13 (c)) 10 = at0 from (e_at0))) rfl ?_
              refine jx_ar (pc_q := 77) (st_q := [.int (i32 (2)), .int (i32 (at0)), .ref 66]) rfl rfl rfl rfl ?_
              refine jx_add (pc_q := 78) rfl rfl ?_
              refine jx_go (tg := 87) rfl rfl ?_
              refine jr_put (pc_q := 90) (i := 10) (z := (at0 + 2)) rfl rfl (by decide) rfl rfl rfl rfl rfl rfl ?_
              have hW45 : Wk (uG (uG (uG G 11 (4)) 13 (c)) 10 ((at0 + 2))) A := Wk_g hW40 (show (0 : Int) ≤ (at0 + 2) by omega) (show (at0 + 2) ≤ (3002 : Int) by omega)
              have hF46 := Fr_g (z := (at0 + 2)) (i := 10) hF41 (by decide)
              refine jx_rt (v := none) rfl rfl rfl rfl rfl rfl ?_
              exact ⟨_, _, (at0 + 2), 4, rfl, rfl, hW45, hF46, rfl, rfl, by omega, by omega, by omega, trivial⟩
          · have _q := h39
            refine jx_ld (pc_q := 60) (l_q := L17) (st_q := [.int (i32 (r9)), .ref 66]) rfl (jl_iloadn gL17_2) ?_
            refine jx_go (tg := 64) rfl rfl ?_
            refine jr_put (pc_q := 67) (i := 13) (z := r9) rfl rfl (by decide) rfl rfl rfl rfl rfl rfl ?_
            have hW47 : Wk (uG (uG G 11 (4)) 13 (r9)) A := Wk_g hW37 (show (-2147483648 : Int) ≤ r9 by omega) (show r9 ≤ (2147483647 : Int) by omega)
            have hF48 := Fr_g (z := r9) (i := 13) hF38 (by decide)
            refine jx_ld (pc_q := 68) (l_q := L17) (st_q := [.ref 66]) rfl (jl_aloadn gL17_0) ?_
            refine jx_ld (pc_q := 69) (l_q := L17) (st_q := [.int (i32 (r9)), .ref 66]) rfl (jl_iloadn gL17_2) ?_
            refine jx_if_le (pc_q := 72) (tg := 81) rfl rfl rfl (Int.le_trans (by decide : (-2147483648 : Int) ≤ -2147483648) b10.1) (Int.le_trans b10.2 (by decide : (2147483647 : Int) ≤ 2147483647)) (fun h49 => ?_) (fun h49 => ?_)
            · have _q := h49
              refine jx_ld (pc_q := 82) (l_q := L17) (st_q := [.ref 66, .ref 66]) rfl (jl_aloadn gL17_0) ?_
              refine jr_get (pc_q := 85) (i := 10) (v := .int (i32 (at0))) rfl rfl (by decide) (rFv_eq (by decide) (show (uG (uG G 11 (4)) 13 (r9)) 10 = at0 from (e_at0))) rfl ?_
              refine jx_ar (pc_q := 86) (st_q := [.int (i32 (1)), .int (i32 (at0)), .ref 66]) rfl rfl rfl rfl ?_
              refine jx_add (pc_q := 87) rfl rfl ?_
              refine jr_put (pc_q := 90) (i := 10) (z := (at0 + 1)) rfl rfl (by decide) rfl rfl rfl rfl rfl rfl ?_
              have hW50 : Wk (uG (uG (uG G 11 (4)) 13 (r9)) 10 ((at0 + 1))) A := Wk_g hW47 (show (0 : Int) ≤ (at0 + 1) by omega) (show (at0 + 1) ≤ (3002 : Int) by omega)
              have hF51 := Fr_g (z := (at0 + 1)) (i := 10) hF48 (by decide)
              refine jx_rt (v := none) rfl rfl rfl rfl rfl rfl ?_
              exact ⟨_, _, (at0 + 1), 4, rfl, rfl, hW50, hF51, rfl, rfl, by omega, by omega, by omega, trivial⟩
            · have _q := h49
              refine jx_ld (pc_q := 73) (l_q := L17) (st_q := [.ref 66, .ref 66]) rfl (jl_aloadn gL17_0) ?_
              refine jr_get (pc_q := 76) (i := 10) (v := .int (i32 (at0))) rfl rfl (by decide) (rFv_eq (by decide) (show (uG (uG G 11 (4)) 13 (r9)) 10 = at0 from (e_at0))) rfl ?_
              refine jx_ar (pc_q := 77) (st_q := [.int (i32 (2)), .int (i32 (at0)), .ref 66]) rfl rfl rfl rfl ?_
              refine jx_add (pc_q := 78) rfl rfl ?_
              refine jx_go (tg := 87) rfl rfl ?_
              refine jr_put (pc_q := 90) (i := 10) (z := (at0 + 2)) rfl rfl (by decide) rfl rfl rfl rfl rfl rfl ?_
              have hW52 : Wk (uG (uG (uG G 11 (4)) 13 (r9)) 10 ((at0 + 2))) A := Wk_g hW47 (show (0 : Int) ≤ (at0 + 2) by omega) (show (at0 + 2) ≤ (3002 : Int) by omega)
              have hF53 := Fr_g (z := (at0 + 2)) (i := 10) hF48 (by decide)
              refine jx_rt (v := none) rfl rfl rfl rfl rfl rfl ?_
              exact ⟨_, _, (at0 + 2), 4, rfl, rfl, hW52, hF53, rfl, rfl, by omega, by omega, by omega, trivial⟩
    · have _q := h16
      refine jx_ld (pc_q := 26) (l_q := L14) (st_q := [.int (i32 (c))]) rfl (jl_iloadn gL14_1) ?_
      refine jx_ar (pc_q := 28) (st_q := [.int (i32 (92)), .int (i32 (c))]) rfl rfl rfl rfl ?_
      refine jx_icmp_ne (pc_q := 31) (tg := 35) rfl rfl rfl (Int.le_trans (by decide : (-2147483648 : Int) ≤ -2147483648) h_c.1) (Int.le_trans h_c.2 (by decide : (2147483647 : Int) ≤ 2147483647)) (by decide) (by decide) (fun h54 => ?_) (fun h54 => ?_)
      · have _q := h54
        refine jx_ar (pc_q := 36) (st_q := [.int (i32 (0))]) rfl rfl rfl rfl ?_
        refine jx_ld (pc_q := 37) (l_q := jSto1 L14 3 (.int (i32 (0)))) (st_q := []) rfl rfl ?_
        obtain ⟨L55, eL55⟩ : ∃ q, q = jSto1 L14 3 (.int (i32 (0))) := ⟨_, rfl⟩
        rw [← eL55]
        have gL55_0 : jGet L55 0 = some (.ref 66) := eL55 ▸ jg_ne (by decide) gL14_0 rfl
        have gL55_1 : jGet L55 1 = some (.int (i32 (c))) := eL55 ▸ jg_ne (by decide) gL14_1 rfl
        have gL55_2 : jGet L55 2 = some (.int (i32 (r9))) := eL55 ▸ jg_ne (by decide) gL14_2 rfl
        have gL55_3 : jGet L55 3 = some (.int (i32 (0))) := eL55 ▸ jg_eq
        refine jx_ld (pc_q := 38) (l_q := L55) (st_q := [.ref 66]) rfl (jl_aloadn gL55_0) ?_
        refine jx_ld (pc_q := 39) (l_q := L55) (st_q := [.int (i32 (r9)), .ref 66]) rfl (jl_iloadn gL55_2) ?_
        refine jx_if_gt (pc_q := 42) (tg := 46) rfl rfl rfl (Int.le_trans (by decide : (-2147483648 : Int) ≤ -2147483648) b10.1) (Int.le_trans b10.2 (by decide : (2147483647 : Int) ≤ 2147483647)) (fun h56 => ?_) (fun h56 => ?_)
        · have _q := h56
          refine jx_ar (pc_q := 47) (st_q := [.int (i32 (4)), .ref 66]) rfl rfl rfl rfl ?_
          refine jx_go (tg := 51) rfl rfl ?_
          refine jr_put (pc_q := 54) (i := 11) (z := 4) rfl rfl (by decide) rfl rfl rfl rfl rfl rfl ?_
          have hW57 : Wk (uG G 11 (4)) A := Wk_g hW (show (0 : Int) ≤ 4 by omega) (show 4 ≤ (5 : Int) by omega)
          have hF58 := Fr_g (z := 4) (i := 11) hF0 (by decide)
          refine jx_ld (pc_q := 55) (l_q := L55) (st_q := [.ref 66]) rfl (jl_aloadn gL55_0) ?_
          refine jx_ld (pc_q := 56) (l_q := L55) (st_q := [.int (i32 (r9)), .ref 66]) rfl (jl_iloadn gL55_2) ?_
          refine jx_if_le (pc_q := 59) (tg := 63) rfl rfl rfl (Int.le_trans (by decide : (-2147483648 : Int) ≤ -2147483648) b10.1) (Int.le_trans b10.2 (by decide : (2147483647 : Int) ≤ 2147483647)) (fun h59 => ?_) (fun h59 => ?_)
          · have _q := h59
            refine jx_ld (pc_q := 64) (l_q := L55) (st_q := [.int (i32 (c)), .ref 66]) rfl (jl_iloadn gL55_1) ?_
            refine jr_put (pc_q := 67) (i := 13) (z := c) rfl rfl (by decide) rfl rfl rfl rfl rfl rfl ?_
            have hW60 : Wk (uG (uG G 11 (4)) 13 (c)) A := Wk_g hW57 (show (-2147483648 : Int) ≤ c by omega) (show c ≤ (2147483647 : Int) by omega)
            have hF61 := Fr_g (z := c) (i := 13) hF58 (by decide)
            refine jx_ld (pc_q := 68) (l_q := L55) (st_q := [.ref 66]) rfl (jl_aloadn gL55_0) ?_
            refine jx_ld (pc_q := 69) (l_q := L55) (st_q := [.int (i32 (r9)), .ref 66]) rfl (jl_iloadn gL55_2) ?_
            refine jx_if_le (pc_q := 72) (tg := 81) rfl rfl rfl (Int.le_trans (by decide : (-2147483648 : Int) ≤ -2147483648) b10.1) (Int.le_trans b10.2 (by decide : (2147483647 : Int) ≤ 2147483647)) (fun h62 => ?_) (fun h62 => ?_)
            · have _q := h62
              refine jx_ld (pc_q := 82) (l_q := L55) (st_q := [.ref 66, .ref 66]) rfl (jl_aloadn gL55_0) ?_
              refine jr_get (pc_q := 85) (i := 10) (v := .int (i32 (at0))) rfl rfl (by decide) (rFv_eq (by decide) (show (uG (uG G 11 (4)) 13 (c)) 10 = at0 from (e_at0))) rfl ?_
              refine jx_ar (pc_q := 86) (st_q := [.int (i32 (1)), .int (i32 (at0)), .ref 66]) rfl rfl rfl rfl ?_
              refine jx_add (pc_q := 87) rfl rfl ?_
              refine jr_put (pc_q := 90) (i := 10) (z := (at0 + 1)) rfl rfl (by decide) rfl rfl rfl rfl rfl rfl ?_
              have hW63 : Wk (uG (uG (uG G 11 (4)) 13 (c)) 10 ((at0 + 1))) A := Wk_g hW60 (show (0 : Int) ≤ (at0 + 1) by omega) (show (at0 + 1) ≤ (3002 : Int) by omega)
              have hF64 := Fr_g (z := (at0 + 1)) (i := 10) hF61 (by decide)
              refine jx_rt (v := none) rfl rfl rfl rfl rfl rfl ?_
              exact ⟨_, _, (at0 + 1), 4, rfl, rfl, hW63, hF64, rfl, rfl, by omega, by omega, by omega, trivial⟩
            · have _q := h62
              refine jx_ld (pc_q := 73) (l_q := L55) (st_q := [.ref 66, .ref 66]) rfl (jl_aloadn gL55_0) ?_
              refine jr_get (pc_q := 76) (i := 10) (v := .int (i32 (at0))) rfl rfl (by decide) (rFv_eq (by decide) (show (uG (uG G 11 (4)) 13 (c)) 10 = at0 from (e_at0))) rfl ?_
              refine jx_ar (pc_q := 77) (st_q := [.int (i32 (2)), .int (i32 (at0)), .ref 66]) rfl rfl rfl rfl ?_
              refine jx_add (pc_q := 78) rfl rfl ?_
              refine jx_go (tg := 87) rfl rfl ?_
              refine jr_put (pc_q := 90) (i := 10) (z := (at0 + 2)) rfl rfl (by decide) rfl rfl rfl rfl rfl rfl ?_
              have hW65 : Wk (uG (uG (uG G 11 (4)) 13 (c)) 10 ((at0 + 2))) A := Wk_g hW60 (show (0 : Int) ≤ (at0 + 2) by omega) (show (at0 + 2) ≤ (3002 : Int) by omega)
              have hF66 := Fr_g (z := (at0 + 2)) (i := 10) hF61 (by decide)
              refine jx_rt (v := none) rfl rfl rfl rfl rfl rfl ?_
              exact ⟨_, _, (at0 + 2), 4, rfl, rfl, hW65, hF66, rfl, rfl, by omega, by omega, by omega, trivial⟩
          · have _q := h59
            refine jx_ld (pc_q := 60) (l_q := L55) (st_q := [.int (i32 (r9)), .ref 66]) rfl (jl_iloadn gL55_2) ?_
            refine jx_go (tg := 64) rfl rfl ?_
            refine jr_put (pc_q := 67) (i := 13) (z := r9) rfl rfl (by decide) rfl rfl rfl rfl rfl rfl ?_
            have hW67 : Wk (uG (uG G 11 (4)) 13 (r9)) A := Wk_g hW57 (show (-2147483648 : Int) ≤ r9 by omega) (show r9 ≤ (2147483647 : Int) by omega)
            have hF68 := Fr_g (z := r9) (i := 13) hF58 (by decide)
            refine jx_ld (pc_q := 68) (l_q := L55) (st_q := [.ref 66]) rfl (jl_aloadn gL55_0) ?_
            refine jx_ld (pc_q := 69) (l_q := L55) (st_q := [.int (i32 (r9)), .ref 66]) rfl (jl_iloadn gL55_2) ?_
            refine jx_if_le (pc_q := 72) (tg := 81) rfl rfl rfl (Int.le_trans (by decide : (-2147483648 : Int) ≤ -2147483648) b10.1) (Int.le_trans b10.2 (by decide : (2147483647 : Int) ≤ 2147483647)) (fun h69 => ?_) (fun h69 => ?_)
            · have _q := h69
              refine jx_ld (pc_q := 82) (l_q := L55) (st_q := [.ref 66, .ref 66]) rfl (jl_aloadn gL55_0) ?_
              refine jr_get (pc_q := 85) (i := 10) (v := .int (i32 (at0))) rfl rfl (by decide) (rFv_eq (by decide) (show (uG (uG G 11 (4)) 13 (r9)) 10 = at0 from (e_at0))) rfl ?_
              refine jx_ar (pc_q := 86) (st_q := [.int (i32 (1)), .int (i32 (at0)), .ref 66]) rfl rfl rfl rfl ?_
              refine jx_add (pc_q := 87) rfl rfl ?_
              refine jr_put (pc_q := 90) (i := 10) (z := (at0 + 1)) rfl rfl (by decide) rfl rfl rfl rfl rfl rfl ?_
              have hW70 : Wk (uG (uG (uG G 11 (4)) 13 (r9)) 10 ((at0 + 1))) A := Wk_g hW67 (show (0 : Int) ≤ (at0 + 1) by omega) (show (at0 + 1) ≤ (3002 : Int) by omega)
              have hF71 := Fr_g (z := (at0 + 1)) (i := 10) hF68 (by decide)
              refine jx_rt (v := none) rfl rfl rfl rfl rfl rfl ?_
              exact ⟨_, _, (at0 + 1), 4, rfl, rfl, hW70, hF71, rfl, rfl, by omega, by omega, by omega, trivial⟩
            · have _q := h69
              refine jx_ld (pc_q := 73) (l_q := L55) (st_q := [.ref 66, .ref 66]) rfl (jl_aloadn gL55_0) ?_
              refine jr_get (pc_q := 76) (i := 10) (v := .int (i32 (at0))) rfl rfl (by decide) (rFv_eq (by decide) (show (uG (uG G 11 (4)) 13 (r9)) 10 = at0 from (e_at0))) rfl ?_
              refine jx_ar (pc_q := 77) (st_q := [.int (i32 (2)), .int (i32 (at0)), .ref 66]) rfl rfl rfl rfl ?_
              refine jx_add (pc_q := 78) rfl rfl ?_
              refine jx_go (tg := 87) rfl rfl ?_
              refine jr_put (pc_q := 90) (i := 10) (z := (at0 + 2)) rfl rfl (by decide) rfl rfl rfl rfl rfl rfl ?_
              have hW72 : Wk (uG (uG (uG G 11 (4)) 13 (r9)) 10 ((at0 + 2))) A := Wk_g hW67 (show (0 : Int) ≤ (at0 + 2) by omega) (show (at0 + 2) ≤ (3002 : Int) by omega)
              have hF73 := Fr_g (z := (at0 + 2)) (i := 10) hF68 (by decide)
              refine jx_rt (v := none) rfl rfl rfl rfl rfl rfl ?_
              exact ⟨_, _, (at0 + 2), 4, rfl, rfl, hW72, hF73, rfl, rfl, by omega, by omega, by omega, trivial⟩
        · have _q := h56
          refine jx_ld (pc_q := 43) (l_q := L55) (st_q := [.int (i32 (0)), .ref 66]) rfl (jl_iloadn gL55_3) ?_
          refine jx_if_eq (pc_q := 46) (tg := 50) rfl rfl rfl (by decide) (by decide) (fun h74 => ?_) (fun h74 => ?_)
          · have _q := h74
            refine jx_ar (pc_q := 51) (st_q := [.int (i32 (5)), .ref 66]) rfl rfl rfl rfl ?_
            refine jr_put (pc_q := 54) (i := 11) (z := 5) rfl rfl (by decide) rfl rfl rfl rfl rfl rfl ?_
            have hW75 : Wk (uG G 11 (5)) A := Wk_g hW (show (0 : Int) ≤ 5 by omega) (show 5 ≤ (5 : Int) by omega)
            have hF76 := Fr_g (z := 5) (i := 11) hF0 (by decide)
            refine jx_ld (pc_q := 55) (l_q := L55) (st_q := [.ref 66]) rfl (jl_aloadn gL55_0) ?_
            refine jx_ld (pc_q := 56) (l_q := L55) (st_q := [.int (i32 (r9)), .ref 66]) rfl (jl_iloadn gL55_2) ?_
            refine jx_if_le (pc_q := 59) (tg := 63) rfl rfl rfl (Int.le_trans (by decide : (-2147483648 : Int) ≤ -2147483648) b10.1) (Int.le_trans b10.2 (by decide : (2147483647 : Int) ≤ 2147483647)) (fun h77 => ?_) (fun h77 => ?_)
            · have _q := h77
              refine jx_ld (pc_q := 64) (l_q := L55) (st_q := [.int (i32 (c)), .ref 66]) rfl (jl_iloadn gL55_1) ?_
              refine jr_put (pc_q := 67) (i := 13) (z := c) rfl rfl (by decide) rfl rfl rfl rfl rfl rfl ?_
              have hW78 : Wk (uG (uG G 11 (5)) 13 (c)) A := Wk_g hW75 (show (-2147483648 : Int) ≤ c by omega) (show c ≤ (2147483647 : Int) by omega)
              have hF79 := Fr_g (z := c) (i := 13) hF76 (by decide)
              refine jx_ld (pc_q := 68) (l_q := L55) (st_q := [.ref 66]) rfl (jl_aloadn gL55_0) ?_
              refine jx_ld (pc_q := 69) (l_q := L55) (st_q := [.int (i32 (r9)), .ref 66]) rfl (jl_iloadn gL55_2) ?_
              refine jx_if_le (pc_q := 72) (tg := 81) rfl rfl rfl (Int.le_trans (by decide : (-2147483648 : Int) ≤ -2147483648) b10.1) (Int.le_trans b10.2 (by decide : (2147483647 : Int) ≤ 2147483647)) (fun h80 => ?_) (fun h80 => ?_)
              · have _q := h80
                refine jx_ld (pc_q := 82) (l_q := L55) (st_q := [.ref 66, .ref 66]) rfl (jl_aloadn gL55_0) ?_
                refine jr_get (pc_q := 85) (i := 10) (v := .int (i32 (at0))) rfl rfl (by decide) (rFv_eq (by decide) (show (uG (uG G 11 (5)) 13 (c)) 10 = at0 from (e_at0))) rfl ?_
                refine jx_ar (pc_q := 86) (st_q := [.int (i32 (1)), .int (i32 (at0)), .ref 66]) rfl rfl rfl rfl ?_
                refine jx_add (pc_q := 87) rfl rfl ?_
                refine jr_put (pc_q := 90) (i := 10) (z := (at0 + 1)) rfl rfl (by decide) rfl rfl rfl rfl rfl rfl ?_
                have hW81 : Wk (uG (uG (uG G 11 (5)) 13 (c)) 10 ((at0 + 1))) A := Wk_g hW78 (show (0 : Int) ≤ (at0 + 1) by omega) (show (at0 + 1) ≤ (3002 : Int) by omega)
                have hF82 := Fr_g (z := (at0 + 1)) (i := 10) hF79 (by decide)
                refine jx_rt (v := none) rfl rfl rfl rfl rfl rfl ?_
                exact ⟨_, _, (at0 + 1), 5, rfl, rfl, hW81, hF82, rfl, rfl, by omega, by omega, by omega, trivial⟩
              · have _q := h80
                refine jx_ld (pc_q := 73) (l_q := L55) (st_q := [.ref 66, .ref 66]) rfl (jl_aloadn gL55_0) ?_
                refine jr_get (pc_q := 76) (i := 10) (v := .int (i32 (at0))) rfl rfl (by decide) (rFv_eq (by decide) (show (uG (uG G 11 (5)) 13 (c)) 10 = at0 from (e_at0))) rfl ?_
                refine jx_ar (pc_q := 77) (st_q := [.int (i32 (2)), .int (i32 (at0)), .ref 66]) rfl rfl rfl rfl ?_
                refine jx_add (pc_q := 78) rfl rfl ?_
                refine jx_go (tg := 87) rfl rfl ?_
                refine jr_put (pc_q := 90) (i := 10) (z := (at0 + 2)) rfl rfl (by decide) rfl rfl rfl rfl rfl rfl ?_
                have hW83 : Wk (uG (uG (uG G 11 (5)) 13 (c)) 10 ((at0 + 2))) A := Wk_g hW78 (show (0 : Int) ≤ (at0 + 2) by omega) (show (at0 + 2) ≤ (3002 : Int) by omega)
                have hF84 := Fr_g (z := (at0 + 2)) (i := 10) hF79 (by decide)
                refine jx_rt (v := none) rfl rfl rfl rfl rfl rfl ?_
                exact ⟨_, _, (at0 + 2), 5, rfl, rfl, hW83, hF84, rfl, rfl, by omega, by omega, by omega, trivial⟩
            · have _q := h77
              refine jx_ld (pc_q := 60) (l_q := L55) (st_q := [.int (i32 (r9)), .ref 66]) rfl (jl_iloadn gL55_2) ?_
              refine jx_go (tg := 64) rfl rfl ?_
              refine jr_put (pc_q := 67) (i := 13) (z := r9) rfl rfl (by decide) rfl rfl rfl rfl rfl rfl ?_
              have hW85 : Wk (uG (uG G 11 (5)) 13 (r9)) A := Wk_g hW75 (show (-2147483648 : Int) ≤ r9 by omega) (show r9 ≤ (2147483647 : Int) by omega)
              have hF86 := Fr_g (z := r9) (i := 13) hF76 (by decide)
              refine jx_ld (pc_q := 68) (l_q := L55) (st_q := [.ref 66]) rfl (jl_aloadn gL55_0) ?_
              refine jx_ld (pc_q := 69) (l_q := L55) (st_q := [.int (i32 (r9)), .ref 66]) rfl (jl_iloadn gL55_2) ?_
              refine jx_if_le (pc_q := 72) (tg := 81) rfl rfl rfl (Int.le_trans (by decide : (-2147483648 : Int) ≤ -2147483648) b10.1) (Int.le_trans b10.2 (by decide : (2147483647 : Int) ≤ 2147483647)) (fun h87 => ?_) (fun h87 => ?_)
              · have _q := h87
                refine jx_ld (pc_q := 82) (l_q := L55) (st_q := [.ref 66, .ref 66]) rfl (jl_aloadn gL55_0) ?_
                refine jr_get (pc_q := 85) (i := 10) (v := .int (i32 (at0))) rfl rfl (by decide) (rFv_eq (by decide) (show (uG (uG G 11 (5)) 13 (r9)) 10 = at0 from (e_at0))) rfl ?_
                refine jx_ar (pc_q := 86) (st_q := [.int (i32 (1)), .int (i32 (at0)), .ref 66]) rfl rfl rfl rfl ?_
                refine jx_add (pc_q := 87) rfl rfl ?_
                refine jr_put (pc_q := 90) (i := 10) (z := (at0 + 1)) rfl rfl (by decide) rfl rfl rfl rfl rfl rfl ?_
                have hW88 : Wk (uG (uG (uG G 11 (5)) 13 (r9)) 10 ((at0 + 1))) A := Wk_g hW85 (show (0 : Int) ≤ (at0 + 1) by omega) (show (at0 + 1) ≤ (3002 : Int) by omega)
                have hF89 := Fr_g (z := (at0 + 1)) (i := 10) hF86 (by decide)
                refine jx_rt (v := none) rfl rfl rfl rfl rfl rfl ?_
                exact ⟨_, _, (at0 + 1), 5, rfl, rfl, hW88, hF89, rfl, rfl, by omega, by omega, by omega, trivial⟩
              · have _q := h87
                refine jx_ld (pc_q := 73) (l_q := L55) (st_q := [.ref 66, .ref 66]) rfl (jl_aloadn gL55_0) ?_
                refine jr_get (pc_q := 76) (i := 10) (v := .int (i32 (at0))) rfl rfl (by decide) (rFv_eq (by decide) (show (uG (uG G 11 (5)) 13 (r9)) 10 = at0 from (e_at0))) rfl ?_
                refine jx_ar (pc_q := 77) (st_q := [.int (i32 (2)), .int (i32 (at0)), .ref 66]) rfl rfl rfl rfl ?_
                refine jx_add (pc_q := 78) rfl rfl ?_
                refine jx_go (tg := 87) rfl rfl ?_
                refine jr_put (pc_q := 90) (i := 10) (z := (at0 + 2)) rfl rfl (by decide) rfl rfl rfl rfl rfl rfl ?_
                have hW90 : Wk (uG (uG (uG G 11 (5)) 13 (r9)) 10 ((at0 + 2))) A := Wk_g hW85 (show (0 : Int) ≤ (at0 + 2) by omega) (show (at0 + 2) ≤ (3002 : Int) by omega)
                have hF91 := Fr_g (z := (at0 + 2)) (i := 10) hF86 (by decide)
                refine jx_rt (v := none) rfl rfl rfl rfl rfl rfl ?_
                exact ⟨_, _, (at0 + 2), 5, rfl, rfl, hW90, hF91, rfl, rfl, by omega, by omega, by omega, trivial⟩
          · have _q := h74
            exact absurd h74 (by omega)
      · have _q := h54
        refine jx_ar (pc_q := 32) (st_q := [.int (i32 (1))]) rfl rfl rfl rfl ?_
        refine jx_go (tg := 36) rfl rfl ?_
        refine jx_ld (pc_q := 37) (l_q := jSto1 L14 3 (.int (i32 (1)))) (st_q := []) rfl rfl ?_
        obtain ⟨L92, eL92⟩ : ∃ q, q = jSto1 L14 3 (.int (i32 (1))) := ⟨_, rfl⟩
        rw [← eL92]
        have gL92_0 : jGet L92 0 = some (.ref 66) := eL92 ▸ jg_ne (by decide) gL14_0 rfl
        have gL92_1 : jGet L92 1 = some (.int (i32 (c))) := eL92 ▸ jg_ne (by decide) gL14_1 rfl
        have gL92_2 : jGet L92 2 = some (.int (i32 (r9))) := eL92 ▸ jg_ne (by decide) gL14_2 rfl
        have gL92_3 : jGet L92 3 = some (.int (i32 (1))) := eL92 ▸ jg_eq
        refine jx_ld (pc_q := 38) (l_q := L92) (st_q := [.ref 66]) rfl (jl_aloadn gL92_0) ?_
        refine jx_ld (pc_q := 39) (l_q := L92) (st_q := [.int (i32 (r9)), .ref 66]) rfl (jl_iloadn gL92_2) ?_
        refine jx_if_gt (pc_q := 42) (tg := 46) rfl rfl rfl (Int.le_trans (by decide : (-2147483648 : Int) ≤ -2147483648) b10.1) (Int.le_trans b10.2 (by decide : (2147483647 : Int) ≤ 2147483647)) (fun h93 => ?_) (fun h93 => ?_)
        · have _q := h93
          refine jx_ar (pc_q := 47) (st_q := [.int (i32 (4)), .ref 66]) rfl rfl rfl rfl ?_
          refine jx_go (tg := 51) rfl rfl ?_
          refine jr_put (pc_q := 54) (i := 11) (z := 4) rfl rfl (by decide) rfl rfl rfl rfl rfl rfl ?_
          have hW94 : Wk (uG G 11 (4)) A := Wk_g hW (show (0 : Int) ≤ 4 by omega) (show 4 ≤ (5 : Int) by omega)
          have hF95 := Fr_g (z := 4) (i := 11) hF0 (by decide)
          refine jx_ld (pc_q := 55) (l_q := L92) (st_q := [.ref 66]) rfl (jl_aloadn gL92_0) ?_
          refine jx_ld (pc_q := 56) (l_q := L92) (st_q := [.int (i32 (r9)), .ref 66]) rfl (jl_iloadn gL92_2) ?_
          refine jx_if_le (pc_q := 59) (tg := 63) rfl rfl rfl (Int.le_trans (by decide : (-2147483648 : Int) ≤ -2147483648) b10.1) (Int.le_trans b10.2 (by decide : (2147483647 : Int) ≤ 2147483647)) (fun h96 => ?_) (fun h96 => ?_)
          · have _q := h96
            refine jx_ld (pc_q := 64) (l_q := L92) (st_q := [.int (i32 (c)), .ref 66]) rfl (jl_iloadn gL92_1) ?_
            refine jr_put (pc_q := 67) (i := 13) (z := c) rfl rfl (by decide) rfl rfl rfl rfl rfl rfl ?_
            have hW97 : Wk (uG (uG G 11 (4)) 13 (c)) A := Wk_g hW94 (show (-2147483648 : Int) ≤ c by omega) (show c ≤ (2147483647 : Int) by omega)
            have hF98 := Fr_g (z := c) (i := 13) hF95 (by decide)
            refine jx_ld (pc_q := 68) (l_q := L92) (st_q := [.ref 66]) rfl (jl_aloadn gL92_0) ?_
            refine jx_ld (pc_q := 69) (l_q := L92) (st_q := [.int (i32 (r9)), .ref 66]) rfl (jl_iloadn gL92_2) ?_
            refine jx_if_le (pc_q := 72) (tg := 81) rfl rfl rfl (Int.le_trans (by decide : (-2147483648 : Int) ≤ -2147483648) b10.1) (Int.le_trans b10.2 (by decide : (2147483647 : Int) ≤ 2147483647)) (fun h99 => ?_) (fun h99 => ?_)
            · have _q := h99
              refine jx_ld (pc_q := 82) (l_q := L92) (st_q := [.ref 66, .ref 66]) rfl (jl_aloadn gL92_0) ?_
              refine jr_get (pc_q := 85) (i := 10) (v := .int (i32 (at0))) rfl rfl (by decide) (rFv_eq (by decide) (show (uG (uG G 11 (4)) 13 (c)) 10 = at0 from (e_at0))) rfl ?_
              refine jx_ar (pc_q := 86) (st_q := [.int (i32 (1)), .int (i32 (at0)), .ref 66]) rfl rfl rfl rfl ?_
              refine jx_add (pc_q := 87) rfl rfl ?_
              refine jr_put (pc_q := 90) (i := 10) (z := (at0 + 1)) rfl rfl (by decide) rfl rfl rfl rfl rfl rfl ?_
              have hW100 : Wk (uG (uG (uG G 11 (4)) 13 (c)) 10 ((at0 + 1))) A := Wk_g hW97 (show (0 : Int) ≤ (at0 + 1) by omega) (show (at0 + 1) ≤ (3002 : Int) by omega)
              have hF101 := Fr_g (z := (at0 + 1)) (i := 10) hF98 (by decide)
              refine jx_rt (v := none) rfl rfl rfl rfl rfl rfl ?_
              exact ⟨_, _, (at0 + 1), 4, rfl, rfl, hW100, hF101, rfl, rfl, by omega, by omega, by omega, trivial⟩
            · have _q := h99
              refine jx_ld (pc_q := 73) (l_q := L92) (st_q := [.ref 66, .ref 66]) rfl (jl_aloadn gL92_0) ?_
              refine jr_get (pc_q := 76) (i := 10) (v := .int (i32 (at0))) rfl rfl (by decide) (rFv_eq (by decide) (show (uG (uG G 11 (4)) 13 (c)) 10 = at0 from (e_at0))) rfl ?_
              refine jx_ar (pc_q := 77) (st_q := [.int (i32 (2)), .int (i32 (at0)), .ref 66]) rfl rfl rfl rfl ?_
              refine jx_add (pc_q := 78) rfl rfl ?_
              refine jx_go (tg := 87) rfl rfl ?_
              refine jr_put (pc_q := 90) (i := 10) (z := (at0 + 2)) rfl rfl (by decide) rfl rfl rfl rfl rfl rfl ?_
              have hW102 : Wk (uG (uG (uG G 11 (4)) 13 (c)) 10 ((at0 + 2))) A := Wk_g hW97 (show (0 : Int) ≤ (at0 + 2) by omega) (show (at0 + 2) ≤ (3002 : Int) by omega)
              have hF103 := Fr_g (z := (at0 + 2)) (i := 10) hF98 (by decide)
              refine jx_rt (v := none) rfl rfl rfl rfl rfl rfl ?_
              exact ⟨_, _, (at0 + 2), 4, rfl, rfl, hW102, hF103, rfl, rfl, by omega, by omega, by omega, trivial⟩
          · have _q := h96
            refine jx_ld (pc_q := 60) (l_q := L92) (st_q := [.int (i32 (r9)), .ref 66]) rfl (jl_iloadn gL92_2) ?_
            refine jx_go (tg := 64) rfl rfl ?_
            refine jr_put (pc_q := 67) (i := 13) (z := r9) rfl rfl (by decide) rfl rfl rfl rfl rfl rfl ?_
            have hW104 : Wk (uG (uG G 11 (4)) 13 (r9)) A := Wk_g hW94 (show (-2147483648 : Int) ≤ r9 by omega) (show r9 ≤ (2147483647 : Int) by omega)
            have hF105 := Fr_g (z := r9) (i := 13) hF95 (by decide)
            refine jx_ld (pc_q := 68) (l_q := L92) (st_q := [.ref 66]) rfl (jl_aloadn gL92_0) ?_
            refine jx_ld (pc_q := 69) (l_q := L92) (st_q := [.int (i32 (r9)), .ref 66]) rfl (jl_iloadn gL92_2) ?_
            refine jx_if_le (pc_q := 72) (tg := 81) rfl rfl rfl (Int.le_trans (by decide : (-2147483648 : Int) ≤ -2147483648) b10.1) (Int.le_trans b10.2 (by decide : (2147483647 : Int) ≤ 2147483647)) (fun h106 => ?_) (fun h106 => ?_)
            · have _q := h106
              refine jx_ld (pc_q := 82) (l_q := L92) (st_q := [.ref 66, .ref 66]) rfl (jl_aloadn gL92_0) ?_
              refine jr_get (pc_q := 85) (i := 10) (v := .int (i32 (at0))) rfl rfl (by decide) (rFv_eq (by decide) (show (uG (uG G 11 (4)) 13 (r9)) 10 = at0 from (e_at0))) rfl ?_
              refine jx_ar (pc_q := 86) (st_q := [.int (i32 (1)), .int (i32 (at0)), .ref 66]) rfl rfl rfl rfl ?_
              refine jx_add (pc_q := 87) rfl rfl ?_
              refine jr_put (pc_q := 90) (i := 10) (z := (at0 + 1)) rfl rfl (by decide) rfl rfl rfl rfl rfl rfl ?_
              have hW107 : Wk (uG (uG (uG G 11 (4)) 13 (r9)) 10 ((at0 + 1))) A := Wk_g hW104 (show (0 : Int) ≤ (at0 + 1) by omega) (show (at0 + 1) ≤ (3002 : Int) by omega)
              have hF108 := Fr_g (z := (at0 + 1)) (i := 10) hF105 (by decide)
              refine jx_rt (v := none) rfl rfl rfl rfl rfl rfl ?_
              exact ⟨_, _, (at0 + 1), 4, rfl, rfl, hW107, hF108, rfl, rfl, by omega, by omega, by omega, trivial⟩
            · have _q := h106
              refine jx_ld (pc_q := 73) (l_q := L92) (st_q := [.ref 66, .ref 66]) rfl (jl_aloadn gL92_0) ?_
              refine jr_get (pc_q := 76) (i := 10) (v := .int (i32 (at0))) rfl rfl (by decide) (rFv_eq (by decide) (show (uG (uG G 11 (4)) 13 (r9)) 10 = at0 from (e_at0))) rfl ?_
              refine jx_ar (pc_q := 77) (st_q := [.int (i32 (2)), .int (i32 (at0)), .ref 66]) rfl rfl rfl rfl ?_
              refine jx_add (pc_q := 78) rfl rfl ?_
              refine jx_go (tg := 87) rfl rfl ?_
              refine jr_put (pc_q := 90) (i := 10) (z := (at0 + 2)) rfl rfl (by decide) rfl rfl rfl rfl rfl rfl ?_
              have hW109 : Wk (uG (uG (uG G 11 (4)) 13 (r9)) 10 ((at0 + 2))) A := Wk_g hW104 (show (0 : Int) ≤ (at0 + 2) by omega) (show (at0 + 2) ≤ (3002 : Int) by omega)
              have hF110 := Fr_g (z := (at0 + 2)) (i := 10) hF105 (by decide)
              refine jx_rt (v := none) rfl rfl rfl rfl rfl rfl ?_
              exact ⟨_, _, (at0 + 2), 4, rfl, rfl, hW109, hF110, rfl, rfl, by omega, by omega, by omega, trivial⟩
        · have _q := h93
          refine jx_ld (pc_q := 43) (l_q := L92) (st_q := [.int (i32 (1)), .ref 66]) rfl (jl_iloadn gL92_3) ?_
          refine jx_if_eq (pc_q := 46) (tg := 50) rfl rfl rfl (by decide) (by decide) (fun h111 => ?_) (fun h111 => ?_)
          · have _q := h111
            exact absurd h111 (by omega)
          · have _q := h111
            refine jx_ar (pc_q := 47) (st_q := [.int (i32 (4)), .ref 66]) rfl rfl rfl rfl ?_
            refine jx_go (tg := 51) rfl rfl ?_
            refine jr_put (pc_q := 54) (i := 11) (z := 4) rfl rfl (by decide) rfl rfl rfl rfl rfl rfl ?_
            have hW112 : Wk (uG G 11 (4)) A := Wk_g hW (show (0 : Int) ≤ 4 by omega) (show 4 ≤ (5 : Int) by omega)
            have hF113 := Fr_g (z := 4) (i := 11) hF0 (by decide)
            refine jx_ld (pc_q := 55) (l_q := L92) (st_q := [.ref 66]) rfl (jl_aloadn gL92_0) ?_
            refine jx_ld (pc_q := 56) (l_q := L92) (st_q := [.int (i32 (r9)), .ref 66]) rfl (jl_iloadn gL92_2) ?_
            refine jx_if_le (pc_q := 59) (tg := 63) rfl rfl rfl (Int.le_trans (by decide : (-2147483648 : Int) ≤ -2147483648) b10.1) (Int.le_trans b10.2 (by decide : (2147483647 : Int) ≤ 2147483647)) (fun h114 => ?_) (fun h114 => ?_)
            · have _q := h114
              refine jx_ld (pc_q := 64) (l_q := L92) (st_q := [.int (i32 (c)), .ref 66]) rfl (jl_iloadn gL92_1) ?_
              refine jr_put (pc_q := 67) (i := 13) (z := c) rfl rfl (by decide) rfl rfl rfl rfl rfl rfl ?_
              have hW115 : Wk (uG (uG G 11 (4)) 13 (c)) A := Wk_g hW112 (show (-2147483648 : Int) ≤ c by omega) (show c ≤ (2147483647 : Int) by omega)
              have hF116 := Fr_g (z := c) (i := 13) hF113 (by decide)
              refine jx_ld (pc_q := 68) (l_q := L92) (st_q := [.ref 66]) rfl (jl_aloadn gL92_0) ?_
              refine jx_ld (pc_q := 69) (l_q := L92) (st_q := [.int (i32 (r9)), .ref 66]) rfl (jl_iloadn gL92_2) ?_
              refine jx_if_le (pc_q := 72) (tg := 81) rfl rfl rfl (Int.le_trans (by decide : (-2147483648 : Int) ≤ -2147483648) b10.1) (Int.le_trans b10.2 (by decide : (2147483647 : Int) ≤ 2147483647)) (fun h117 => ?_) (fun h117 => ?_)
              · have _q := h117
                refine jx_ld (pc_q := 82) (l_q := L92) (st_q := [.ref 66, .ref 66]) rfl (jl_aloadn gL92_0) ?_
                refine jr_get (pc_q := 85) (i := 10) (v := .int (i32 (at0))) rfl rfl (by decide) (rFv_eq (by decide) (show (uG (uG G 11 (4)) 13 (c)) 10 = at0 from (e_at0))) rfl ?_
                refine jx_ar (pc_q := 86) (st_q := [.int (i32 (1)), .int (i32 (at0)), .ref 66]) rfl rfl rfl rfl ?_
                refine jx_add (pc_q := 87) rfl rfl ?_
                refine jr_put (pc_q := 90) (i := 10) (z := (at0 + 1)) rfl rfl (by decide) rfl rfl rfl rfl rfl rfl ?_
                have hW118 : Wk (uG (uG (uG G 11 (4)) 13 (c)) 10 ((at0 + 1))) A := Wk_g hW115 (show (0 : Int) ≤ (at0 + 1) by omega) (show (at0 + 1) ≤ (3002 : Int) by omega)
                have hF119 := Fr_g (z := (at0 + 1)) (i := 10) hF116 (by decide)
                refine jx_rt (v := none) rfl rfl rfl rfl rfl rfl ?_
                exact ⟨_, _, (at0 + 1), 4, rfl, rfl, hW118, hF119, rfl, rfl, by omega, by omega, by omega, trivial⟩
              · have _q := h117
                refine jx_ld (pc_q := 73) (l_q := L92) (st_q := [.ref 66, .ref 66]) rfl (jl_aloadn gL92_0) ?_
                refine jr_get (pc_q := 76) (i := 10) (v := .int (i32 (at0))) rfl rfl (by decide) (rFv_eq (by decide) (show (uG (uG G 11 (4)) 13 (c)) 10 = at0 from (e_at0))) rfl ?_
                refine jx_ar (pc_q := 77) (st_q := [.int (i32 (2)), .int (i32 (at0)), .ref 66]) rfl rfl rfl rfl ?_
                refine jx_add (pc_q := 78) rfl rfl ?_
                refine jx_go (tg := 87) rfl rfl ?_
                refine jr_put (pc_q := 90) (i := 10) (z := (at0 + 2)) rfl rfl (by decide) rfl rfl rfl rfl rfl rfl ?_
                have hW120 : Wk (uG (uG (uG G 11 (4)) 13 (c)) 10 ((at0 + 2))) A := Wk_g hW115 (show (0 : Int) ≤ (at0 + 2) by omega) (show (at0 + 2) ≤ (3002 : Int) by omega)
                have hF121 := Fr_g (z := (at0 + 2)) (i := 10) hF116 (by decide)
                refine jx_rt (v := none) rfl rfl rfl rfl rfl rfl ?_
                exact ⟨_, _, (at0 + 2), 4, rfl, rfl, hW120, hF121, rfl, rfl, by omega, by omega, by omega, trivial⟩
            · have _q := h114
              refine jx_ld (pc_q := 60) (l_q := L92) (st_q := [.int (i32 (r9)), .ref 66]) rfl (jl_iloadn gL92_2) ?_
              refine jx_go (tg := 64) rfl rfl ?_
              refine jr_put (pc_q := 67) (i := 13) (z := r9) rfl rfl (by decide) rfl rfl rfl rfl rfl rfl ?_
              have hW122 : Wk (uG (uG G 11 (4)) 13 (r9)) A := Wk_g hW112 (show (-2147483648 : Int) ≤ r9 by omega) (show r9 ≤ (2147483647 : Int) by omega)
              have hF123 := Fr_g (z := r9) (i := 13) hF113 (by decide)
              refine jx_ld (pc_q := 68) (l_q := L92) (st_q := [.ref 66]) rfl (jl_aloadn gL92_0) ?_
              refine jx_ld (pc_q := 69) (l_q := L92) (st_q := [.int (i32 (r9)), .ref 66]) rfl (jl_iloadn gL92_2) ?_
              refine jx_if_le (pc_q := 72) (tg := 81) rfl rfl rfl (Int.le_trans (by decide : (-2147483648 : Int) ≤ -2147483648) b10.1) (Int.le_trans b10.2 (by decide : (2147483647 : Int) ≤ 2147483647)) (fun h124 => ?_) (fun h124 => ?_)
              · have _q := h124
                refine jx_ld (pc_q := 82) (l_q := L92) (st_q := [.ref 66, .ref 66]) rfl (jl_aloadn gL92_0) ?_
                refine jr_get (pc_q := 85) (i := 10) (v := .int (i32 (at0))) rfl rfl (by decide) (rFv_eq (by decide) (show (uG (uG G 11 (4)) 13 (r9)) 10 = at0 from (e_at0))) rfl ?_
                refine jx_ar (pc_q := 86) (st_q := [.int (i32 (1)), .int (i32 (at0)), .ref 66]) rfl rfl rfl rfl ?_
                refine jx_add (pc_q := 87) rfl rfl ?_
                refine jr_put (pc_q := 90) (i := 10) (z := (at0 + 1)) rfl rfl (by decide) rfl rfl rfl rfl rfl rfl ?_
                have hW125 : Wk (uG (uG (uG G 11 (4)) 13 (r9)) 10 ((at0 + 1))) A := Wk_g hW122 (show (0 : Int) ≤ (at0 + 1) by omega) (show (at0 + 1) ≤ (3002 : Int) by omega)
                have hF126 := Fr_g (z := (at0 + 1)) (i := 10) hF123 (by decide)
                refine jx_rt (v := none) rfl rfl rfl rfl rfl rfl ?_
                exact ⟨_, _, (at0 + 1), 4, rfl, rfl, hW125, hF126, rfl, rfl, by omega, by omega, by omega, trivial⟩
              · have _q := h124
                refine jx_ld (pc_q := 73) (l_q := L92) (st_q := [.ref 66, .ref 66]) rfl (jl_aloadn gL92_0) ?_
                refine jr_get (pc_q := 76) (i := 10) (v := .int (i32 (at0))) rfl rfl (by decide) (rFv_eq (by decide) (show (uG (uG G 11 (4)) 13 (r9)) 10 = at0 from (e_at0))) rfl ?_
                refine jx_ar (pc_q := 77) (st_q := [.int (i32 (2)), .int (i32 (at0)), .ref 66]) rfl rfl rfl rfl ?_
                refine jx_add (pc_q := 78) rfl rfl ?_
                refine jx_go (tg := 87) rfl rfl ?_
                refine jr_put (pc_q := 90) (i := 10) (z := (at0 + 2)) rfl rfl (by decide) rfl rfl rfl rfl rfl rfl ?_
                have hW127 : Wk (uG (uG (uG G 11 (4)) 13 (r9)) 10 ((at0 + 2))) A := Wk_g hW122 (show (0 : Int) ≤ (at0 + 2) by omega) (show (at0 + 2) ≤ (3002 : Int) by omega)
                have hF128 := Fr_g (z := (at0 + 2)) (i := 10) hF123 (by decide)
                refine jx_rt (v := none) rfl rfl rfl rfl rfl rfl ?_
                exact ⟨_, _, (at0 + 2), 4, rfl, rfl, hW127, hF128, rfl, rfl, by omega, by omega, by omega, trivial⟩
  · have _q : True := trivial
    refine jx_st (pc_q := 14) (as := [.int (i32 (c)), .int (i32 (r2))]) (st := []) rfl rfl ⟨rfl, Nat.le_of_ble_eq_true rfl⟩ rfl rfl rfl (c_pair (dd := d) (hd := by omega) (c := c) (e := r2)   (h_c := ⟨(Int.le_trans (by decide : (-2147483648 : Int) ≤ -2147483648) h_c.1), (Int.le_trans h_c.2 (by decide : (2147483647 : Int) ≤ 2147483647))⟩) (h_e := ⟨(Int.le_trans (by decide : (-2147483648 : Int) ≤ -2147483648) b3.1), (Int.le_trans b3.2 (by decide : (2147483647 : Int) ≤ 2147483647))⟩)  ) (fun o V_q hq => ?_)
    obtain ⟨r129, rfl, rfl, b130, p131, p132, -⟩ := hq
    refine .inr ⟨_, rfl, ?_⟩
    refine jx_ld (pc_q := 15) (l_q := jSto1 [(0, .ref 66), (1, .int (i32 (c)))] 2 (.int (i32 (r129)))) (st_q := []) rfl rfl ?_
    obtain ⟨L134, eL134⟩ : ∃ q, q = jSto1 [(0, .ref 66), (1, .int (i32 (c)))] 2 (.int (i32 (r129))) := ⟨_, rfl⟩
    rw [← eL134]
    have gL134_0 : jGet L134 0 = some (.ref 66) := eL134 ▸ jg_ne (by decide) (rfl : jGet [(0, .ref 66), (1, .int (i32 (c)))] 0 = some (.ref 66)) rfl
    have gL134_1 : jGet L134 1 = some (.int (i32 (c))) := eL134 ▸ jg_ne (by decide) (rfl : jGet [(0, .ref 66), (1, .int (i32 (c)))] 1 = some (.int (i32 (c)))) rfl
    have gL134_2 : jGet L134 2 = some (.int (i32 (r129))) := eL134 ▸ jg_eq
    refine jx_hp (pc_q := 18) (st_q := [.ref 30]) rfl rfl rfl rfl rfl rfl ?_
    refine jx_ld (pc_q := 19) (l_q := L134) (st_q := [.int (i32 (c)), .ref 30]) rfl (jl_iloadn gL134_1) ?_
    refine jx_si (pc_q := 22) rfl rfl rfl ⟨Nat.le_of_ble_eq_true rfl, (by decide)⟩ (by omega) (by omega) rfl (fun r135 hr135 => ?_)
    refine jx_if_ge (pc_q := 25) (tg := 31) rfl rfl rfl (by omega) (by omega) (fun h136 => ?_) (fun h136 => ?_)
    · have _q := h136
      refine jx_ar (pc_q := 32) (st_q := [.int (i32 (1))]) rfl rfl rfl rfl ?_
      refine jx_go (tg := 36) rfl rfl ?_
      refine jx_ld (pc_q := 37) (l_q := jSto1 L134 3 (.int (i32 (1)))) (st_q := []) rfl rfl ?_
      obtain ⟨L137, eL137⟩ : ∃ q, q = jSto1 L134 3 (.int (i32 (1))) := ⟨_, rfl⟩
      rw [← eL137]
      have gL137_0 : jGet L137 0 = some (.ref 66) := eL137 ▸ jg_ne (by decide) gL134_0 rfl
      have gL137_1 : jGet L137 1 = some (.int (i32 (c))) := eL137 ▸ jg_ne (by decide) gL134_1 rfl
      have gL137_2 : jGet L137 2 = some (.int (i32 (r129))) := eL137 ▸ jg_ne (by decide) gL134_2 rfl
      have gL137_3 : jGet L137 3 = some (.int (i32 (1))) := eL137 ▸ jg_eq
      refine jx_ld (pc_q := 38) (l_q := L137) (st_q := [.ref 66]) rfl (jl_aloadn gL137_0) ?_
      refine jx_ld (pc_q := 39) (l_q := L137) (st_q := [.int (i32 (r129)), .ref 66]) rfl (jl_iloadn gL137_2) ?_
      refine jx_if_gt (pc_q := 42) (tg := 46) rfl rfl rfl (Int.le_trans (by decide : (-2147483648 : Int) ≤ -2147483648) b130.1) (Int.le_trans b130.2 (by decide : (2147483647 : Int) ≤ 2147483647)) (fun h138 => ?_) (fun h138 => ?_)
      · have _q := h138
        refine jx_ar (pc_q := 47) (st_q := [.int (i32 (4)), .ref 66]) rfl rfl rfl rfl ?_
        refine jx_go (tg := 51) rfl rfl ?_
        refine jr_put (pc_q := 54) (i := 11) (z := 4) rfl rfl (by decide) rfl rfl rfl rfl rfl rfl ?_
        have hW139 : Wk (uG G 11 (4)) A := Wk_g hW (show (0 : Int) ≤ 4 by omega) (show 4 ≤ (5 : Int) by omega)
        have hF140 := Fr_g (z := 4) (i := 11) hF0 (by decide)
        refine jx_ld (pc_q := 55) (l_q := L137) (st_q := [.ref 66]) rfl (jl_aloadn gL137_0) ?_
        refine jx_ld (pc_q := 56) (l_q := L137) (st_q := [.int (i32 (r129)), .ref 66]) rfl (jl_iloadn gL137_2) ?_
        refine jx_if_le (pc_q := 59) (tg := 63) rfl rfl rfl (Int.le_trans (by decide : (-2147483648 : Int) ≤ -2147483648) b130.1) (Int.le_trans b130.2 (by decide : (2147483647 : Int) ≤ 2147483647)) (fun h141 => ?_) (fun h141 => ?_)
        · have _q := h141
          refine jx_ld (pc_q := 64) (l_q := L137) (st_q := [.int (i32 (c)), .ref 66]) rfl (jl_iloadn gL137_1) ?_
          refine jr_put (pc_q := 67) (i := 13) (z := c) rfl rfl (by decide) rfl rfl rfl rfl rfl rfl ?_
          have hW142 : Wk (uG (uG G 11 (4)) 13 (c)) A := Wk_g hW139 (show (-2147483648 : Int) ≤ c by omega) (show c ≤ (2147483647 : Int) by omega)
          have hF143 := Fr_g (z := c) (i := 13) hF140 (by decide)
          refine jx_ld (pc_q := 68) (l_q := L137) (st_q := [.ref 66]) rfl (jl_aloadn gL137_0) ?_
          refine jx_ld (pc_q := 69) (l_q := L137) (st_q := [.int (i32 (r129)), .ref 66]) rfl (jl_iloadn gL137_2) ?_
          refine jx_if_le (pc_q := 72) (tg := 81) rfl rfl rfl (Int.le_trans (by decide : (-2147483648 : Int) ≤ -2147483648) b130.1) (Int.le_trans b130.2 (by decide : (2147483647 : Int) ≤ 2147483647)) (fun h144 => ?_) (fun h144 => ?_)
          · have _q := h144
            refine jx_ld (pc_q := 82) (l_q := L137) (st_q := [.ref 66, .ref 66]) rfl (jl_aloadn gL137_0) ?_
            refine jr_get (pc_q := 85) (i := 10) (v := .int (i32 (at0))) rfl rfl (by decide) (rFv_eq (by decide) (show (uG (uG G 11 (4)) 13 (c)) 10 = at0 from (e_at0))) rfl ?_
            refine jx_ar (pc_q := 86) (st_q := [.int (i32 (1)), .int (i32 (at0)), .ref 66]) rfl rfl rfl rfl ?_
            refine jx_add (pc_q := 87) rfl rfl ?_
            refine jr_put (pc_q := 90) (i := 10) (z := (at0 + 1)) rfl rfl (by decide) rfl rfl rfl rfl rfl rfl ?_
            have hW145 : Wk (uG (uG (uG G 11 (4)) 13 (c)) 10 ((at0 + 1))) A := Wk_g hW142 (show (0 : Int) ≤ (at0 + 1) by omega) (show (at0 + 1) ≤ (3002 : Int) by omega)
            have hF146 := Fr_g (z := (at0 + 1)) (i := 10) hF143 (by decide)
            refine jx_rt (v := none) rfl rfl rfl rfl rfl rfl ?_
            exact ⟨_, _, (at0 + 1), 4, rfl, rfl, hW145, hF146, rfl, rfl, by omega, by omega, by omega, trivial⟩
          · have _q := h144
            refine jx_ld (pc_q := 73) (l_q := L137) (st_q := [.ref 66, .ref 66]) rfl (jl_aloadn gL137_0) ?_
            refine jr_get (pc_q := 76) (i := 10) (v := .int (i32 (at0))) rfl rfl (by decide) (rFv_eq (by decide) (show (uG (uG G 11 (4)) 13 (c)) 10 = at0 from (e_at0))) rfl ?_
            refine jx_ar (pc_q := 77) (st_q := [.int (i32 (2)), .int (i32 (at0)), .ref 66]) rfl rfl rfl rfl ?_
            refine jx_add (pc_q := 78) rfl rfl ?_
            refine jx_go (tg := 87) rfl rfl ?_
            refine jr_put (pc_q := 90) (i := 10) (z := (at0 + 2)) rfl rfl (by decide) rfl rfl rfl rfl rfl rfl ?_
            have hW147 : Wk (uG (uG (uG G 11 (4)) 13 (c)) 10 ((at0 + 2))) A := Wk_g hW142 (show (0 : Int) ≤ (at0 + 2) by omega) (show (at0 + 2) ≤ (3002 : Int) by omega)
            have hF148 := Fr_g (z := (at0 + 2)) (i := 10) hF143 (by decide)
            refine jx_rt (v := none) rfl rfl rfl rfl rfl rfl ?_
            exact ⟨_, _, (at0 + 2), 4, rfl, rfl, hW147, hF148, rfl, rfl, by omega, by omega, by omega, trivial⟩
        · have _q := h141
          refine jx_ld (pc_q := 60) (l_q := L137) (st_q := [.int (i32 (r129)), .ref 66]) rfl (jl_iloadn gL137_2) ?_
          refine jx_go (tg := 64) rfl rfl ?_
          refine jr_put (pc_q := 67) (i := 13) (z := r129) rfl rfl (by decide) rfl rfl rfl rfl rfl rfl ?_
          have hW149 : Wk (uG (uG G 11 (4)) 13 (r129)) A := Wk_g hW139 (show (-2147483648 : Int) ≤ r129 by omega) (show r129 ≤ (2147483647 : Int) by omega)
          have hF150 := Fr_g (z := r129) (i := 13) hF140 (by decide)
          refine jx_ld (pc_q := 68) (l_q := L137) (st_q := [.ref 66]) rfl (jl_aloadn gL137_0) ?_
          refine jx_ld (pc_q := 69) (l_q := L137) (st_q := [.int (i32 (r129)), .ref 66]) rfl (jl_iloadn gL137_2) ?_
          refine jx_if_le (pc_q := 72) (tg := 81) rfl rfl rfl (Int.le_trans (by decide : (-2147483648 : Int) ≤ -2147483648) b130.1) (Int.le_trans b130.2 (by decide : (2147483647 : Int) ≤ 2147483647)) (fun h151 => ?_) (fun h151 => ?_)
          · have _q := h151
            refine jx_ld (pc_q := 82) (l_q := L137) (st_q := [.ref 66, .ref 66]) rfl (jl_aloadn gL137_0) ?_
            refine jr_get (pc_q := 85) (i := 10) (v := .int (i32 (at0))) rfl rfl (by decide) (rFv_eq (by decide) (show (uG (uG G 11 (4)) 13 (r129)) 10 = at0 from (e_at0))) rfl ?_
            refine jx_ar (pc_q := 86) (st_q := [.int (i32 (1)), .int (i32 (at0)), .ref 66]) rfl rfl rfl rfl ?_
            refine jx_add (pc_q := 87) rfl rfl ?_
            refine jr_put (pc_q := 90) (i := 10) (z := (at0 + 1)) rfl rfl (by decide) rfl rfl rfl rfl rfl rfl ?_
            have hW152 : Wk (uG (uG (uG G 11 (4)) 13 (r129)) 10 ((at0 + 1))) A := Wk_g hW149 (show (0 : Int) ≤ (at0 + 1) by omega) (show (at0 + 1) ≤ (3002 : Int) by omega)
            have hF153 := Fr_g (z := (at0 + 1)) (i := 10) hF150 (by decide)
            refine jx_rt (v := none) rfl rfl rfl rfl rfl rfl ?_
            exact ⟨_, _, (at0 + 1), 4, rfl, rfl, hW152, hF153, rfl, rfl, by omega, by omega, by omega, trivial⟩
          · have _q := h151
            refine jx_ld (pc_q := 73) (l_q := L137) (st_q := [.ref 66, .ref 66]) rfl (jl_aloadn gL137_0) ?_
            refine jr_get (pc_q := 76) (i := 10) (v := .int (i32 (at0))) rfl rfl (by decide) (rFv_eq (by decide) (show (uG (uG G 11 (4)) 13 (r129)) 10 = at0 from (e_at0))) rfl ?_
            refine jx_ar (pc_q := 77) (st_q := [.int (i32 (2)), .int (i32 (at0)), .ref 66]) rfl rfl rfl rfl ?_
            refine jx_add (pc_q := 78) rfl rfl ?_
            refine jx_go (tg := 87) rfl rfl ?_
            refine jr_put (pc_q := 90) (i := 10) (z := (at0 + 2)) rfl rfl (by decide) rfl rfl rfl rfl rfl rfl ?_
            have hW154 : Wk (uG (uG (uG G 11 (4)) 13 (r129)) 10 ((at0 + 2))) A := Wk_g hW149 (show (0 : Int) ≤ (at0 + 2) by omega) (show (at0 + 2) ≤ (3002 : Int) by omega)
            have hF155 := Fr_g (z := (at0 + 2)) (i := 10) hF150 (by decide)
            refine jx_rt (v := none) rfl rfl rfl rfl rfl rfl ?_
            exact ⟨_, _, (at0 + 2), 4, rfl, rfl, hW154, hF155, rfl, rfl, by omega, by omega, by omega, trivial⟩
      · have _q := h138
        refine jx_ld (pc_q := 43) (l_q := L137) (st_q := [.int (i32 (1)), .ref 66]) rfl (jl_iloadn gL137_3) ?_
        refine jx_if_eq (pc_q := 46) (tg := 50) rfl rfl rfl (by decide) (by decide) (fun h156 => ?_) (fun h156 => ?_)
        · have _q := h156
          exact absurd h156 (by omega)
        · have _q := h156
          refine jx_ar (pc_q := 47) (st_q := [.int (i32 (4)), .ref 66]) rfl rfl rfl rfl ?_
          refine jx_go (tg := 51) rfl rfl ?_
          refine jr_put (pc_q := 54) (i := 11) (z := 4) rfl rfl (by decide) rfl rfl rfl rfl rfl rfl ?_
          have hW157 : Wk (uG G 11 (4)) A := Wk_g hW (show (0 : Int) ≤ 4 by omega) (show 4 ≤ (5 : Int) by omega)
          have hF158 := Fr_g (z := 4) (i := 11) hF0 (by decide)
          refine jx_ld (pc_q := 55) (l_q := L137) (st_q := [.ref 66]) rfl (jl_aloadn gL137_0) ?_
          refine jx_ld (pc_q := 56) (l_q := L137) (st_q := [.int (i32 (r129)), .ref 66]) rfl (jl_iloadn gL137_2) ?_
          refine jx_if_le (pc_q := 59) (tg := 63) rfl rfl rfl (Int.le_trans (by decide : (-2147483648 : Int) ≤ -2147483648) b130.1) (Int.le_trans b130.2 (by decide : (2147483647 : Int) ≤ 2147483647)) (fun h159 => ?_) (fun h159 => ?_)
          · have _q := h159
            refine jx_ld (pc_q := 64) (l_q := L137) (st_q := [.int (i32 (c)), .ref 66]) rfl (jl_iloadn gL137_1) ?_
            refine jr_put (pc_q := 67) (i := 13) (z := c) rfl rfl (by decide) rfl rfl rfl rfl rfl rfl ?_
            have hW160 : Wk (uG (uG G 11 (4)) 13 (c)) A := Wk_g hW157 (show (-2147483648 : Int) ≤ c by omega) (show c ≤ (2147483647 : Int) by omega)
            have hF161 := Fr_g (z := c) (i := 13) hF158 (by decide)
            refine jx_ld (pc_q := 68) (l_q := L137) (st_q := [.ref 66]) rfl (jl_aloadn gL137_0) ?_
            refine jx_ld (pc_q := 69) (l_q := L137) (st_q := [.int (i32 (r129)), .ref 66]) rfl (jl_iloadn gL137_2) ?_
            refine jx_if_le (pc_q := 72) (tg := 81) rfl rfl rfl (Int.le_trans (by decide : (-2147483648 : Int) ≤ -2147483648) b130.1) (Int.le_trans b130.2 (by decide : (2147483647 : Int) ≤ 2147483647)) (fun h162 => ?_) (fun h162 => ?_)
            · have _q := h162
              refine jx_ld (pc_q := 82) (l_q := L137) (st_q := [.ref 66, .ref 66]) rfl (jl_aloadn gL137_0) ?_
              refine jr_get (pc_q := 85) (i := 10) (v := .int (i32 (at0))) rfl rfl (by decide) (rFv_eq (by decide) (show (uG (uG G 11 (4)) 13 (c)) 10 = at0 from (e_at0))) rfl ?_
              refine jx_ar (pc_q := 86) (st_q := [.int (i32 (1)), .int (i32 (at0)), .ref 66]) rfl rfl rfl rfl ?_
              refine jx_add (pc_q := 87) rfl rfl ?_
              refine jr_put (pc_q := 90) (i := 10) (z := (at0 + 1)) rfl rfl (by decide) rfl rfl rfl rfl rfl rfl ?_
              have hW163 : Wk (uG (uG (uG G 11 (4)) 13 (c)) 10 ((at0 + 1))) A := Wk_g hW160 (show (0 : Int) ≤ (at0 + 1) by omega) (show (at0 + 1) ≤ (3002 : Int) by omega)
              have hF164 := Fr_g (z := (at0 + 1)) (i := 10) hF161 (by decide)
              refine jx_rt (v := none) rfl rfl rfl rfl rfl rfl ?_
              exact ⟨_, _, (at0 + 1), 4, rfl, rfl, hW163, hF164, rfl, rfl, by omega, by omega, by omega, trivial⟩
            · have _q := h162
              refine jx_ld (pc_q := 73) (l_q := L137) (st_q := [.ref 66, .ref 66]) rfl (jl_aloadn gL137_0) ?_
              refine jr_get (pc_q := 76) (i := 10) (v := .int (i32 (at0))) rfl rfl (by decide) (rFv_eq (by decide) (show (uG (uG G 11 (4)) 13 (c)) 10 = at0 from (e_at0))) rfl ?_
              refine jx_ar (pc_q := 77) (st_q := [.int (i32 (2)), .int (i32 (at0)), .ref 66]) rfl rfl rfl rfl ?_
              refine jx_add (pc_q := 78) rfl rfl ?_
              refine jx_go (tg := 87) rfl rfl ?_
              refine jr_put (pc_q := 90) (i := 10) (z := (at0 + 2)) rfl rfl (by decide) rfl rfl rfl rfl rfl rfl ?_
              have hW165 : Wk (uG (uG (uG G 11 (4)) 13 (c)) 10 ((at0 + 2))) A := Wk_g hW160 (show (0 : Int) ≤ (at0 + 2) by omega) (show (at0 + 2) ≤ (3002 : Int) by omega)
              have hF166 := Fr_g (z := (at0 + 2)) (i := 10) hF161 (by decide)
              refine jx_rt (v := none) rfl rfl rfl rfl rfl rfl ?_
              exact ⟨_, _, (at0 + 2), 4, rfl, rfl, hW165, hF166, rfl, rfl, by omega, by omega, by omega, trivial⟩
          · have _q := h159
            refine jx_ld (pc_q := 60) (l_q := L137) (st_q := [.int (i32 (r129)), .ref 66]) rfl (jl_iloadn gL137_2) ?_
            refine jx_go (tg := 64) rfl rfl ?_
            refine jr_put (pc_q := 67) (i := 13) (z := r129) rfl rfl (by decide) rfl rfl rfl rfl rfl rfl ?_
            have hW167 : Wk (uG (uG G 11 (4)) 13 (r129)) A := Wk_g hW157 (show (-2147483648 : Int) ≤ r129 by omega) (show r129 ≤ (2147483647 : Int) by omega)
            have hF168 := Fr_g (z := r129) (i := 13) hF158 (by decide)
            refine jx_ld (pc_q := 68) (l_q := L137) (st_q := [.ref 66]) rfl (jl_aloadn gL137_0) ?_
            refine jx_ld (pc_q := 69) (l_q := L137) (st_q := [.int (i32 (r129)), .ref 66]) rfl (jl_iloadn gL137_2) ?_
            refine jx_if_le (pc_q := 72) (tg := 81) rfl rfl rfl (Int.le_trans (by decide : (-2147483648 : Int) ≤ -2147483648) b130.1) (Int.le_trans b130.2 (by decide : (2147483647 : Int) ≤ 2147483647)) (fun h169 => ?_) (fun h169 => ?_)
            · have _q := h169
              refine jx_ld (pc_q := 82) (l_q := L137) (st_q := [.ref 66, .ref 66]) rfl (jl_aloadn gL137_0) ?_
              refine jr_get (pc_q := 85) (i := 10) (v := .int (i32 (at0))) rfl rfl (by decide) (rFv_eq (by decide) (show (uG (uG G 11 (4)) 13 (r129)) 10 = at0 from (e_at0))) rfl ?_
              refine jx_ar (pc_q := 86) (st_q := [.int (i32 (1)), .int (i32 (at0)), .ref 66]) rfl rfl rfl rfl ?_
              refine jx_add (pc_q := 87) rfl rfl ?_
              refine jr_put (pc_q := 90) (i := 10) (z := (at0 + 1)) rfl rfl (by decide) rfl rfl rfl rfl rfl rfl ?_
              have hW170 : Wk (uG (uG (uG G 11 (4)) 13 (r129)) 10 ((at0 + 1))) A := Wk_g hW167 (show (0 : Int) ≤ (at0 + 1) by omega) (show (at0 + 1) ≤ (3002 : Int) by omega)
              have hF171 := Fr_g (z := (at0 + 1)) (i := 10) hF168 (by decide)
              refine jx_rt (v := none) rfl rfl rfl rfl rfl rfl ?_
              exact ⟨_, _, (at0 + 1), 4, rfl, rfl, hW170, hF171, rfl, rfl, by omega, by omega, by omega, trivial⟩
            · have _q := h169
              refine jx_ld (pc_q := 73) (l_q := L137) (st_q := [.ref 66, .ref 66]) rfl (jl_aloadn gL137_0) ?_
              refine jr_get (pc_q := 76) (i := 10) (v := .int (i32 (at0))) rfl rfl (by decide) (rFv_eq (by decide) (show (uG (uG G 11 (4)) 13 (r129)) 10 = at0 from (e_at0))) rfl ?_
              refine jx_ar (pc_q := 77) (st_q := [.int (i32 (2)), .int (i32 (at0)), .ref 66]) rfl rfl rfl rfl ?_
              refine jx_add (pc_q := 78) rfl rfl ?_
              refine jx_go (tg := 87) rfl rfl ?_
              refine jr_put (pc_q := 90) (i := 10) (z := (at0 + 2)) rfl rfl (by decide) rfl rfl rfl rfl rfl rfl ?_
              have hW172 : Wk (uG (uG (uG G 11 (4)) 13 (r129)) 10 ((at0 + 2))) A := Wk_g hW167 (show (0 : Int) ≤ (at0 + 2) by omega) (show (at0 + 2) ≤ (3002 : Int) by omega)
              have hF173 := Fr_g (z := (at0 + 2)) (i := 10) hF168 (by decide)
              refine jx_rt (v := none) rfl rfl rfl rfl rfl rfl ?_
              exact ⟨_, _, (at0 + 2), 4, rfl, rfl, hW172, hF173, rfl, rfl, by omega, by omega, by omega, trivial⟩
    · have _q := h136
      refine jx_ld (pc_q := 26) (l_q := L134) (st_q := [.int (i32 (c))]) rfl (jl_iloadn gL134_1) ?_
      refine jx_ar (pc_q := 28) (st_q := [.int (i32 (92)), .int (i32 (c))]) rfl rfl rfl rfl ?_
      refine jx_icmp_ne (pc_q := 31) (tg := 35) rfl rfl rfl (Int.le_trans (by decide : (-2147483648 : Int) ≤ -2147483648) h_c.1) (Int.le_trans h_c.2 (by decide : (2147483647 : Int) ≤ 2147483647)) (by decide) (by decide) (fun h174 => ?_) (fun h174 => ?_)
      · have _q := h174
        refine jx_ar (pc_q := 36) (st_q := [.int (i32 (0))]) rfl rfl rfl rfl ?_
        refine jx_ld (pc_q := 37) (l_q := jSto1 L134 3 (.int (i32 (0)))) (st_q := []) rfl rfl ?_
        obtain ⟨L175, eL175⟩ : ∃ q, q = jSto1 L134 3 (.int (i32 (0))) := ⟨_, rfl⟩
        rw [← eL175]
        have gL175_0 : jGet L175 0 = some (.ref 66) := eL175 ▸ jg_ne (by decide) gL134_0 rfl
        have gL175_1 : jGet L175 1 = some (.int (i32 (c))) := eL175 ▸ jg_ne (by decide) gL134_1 rfl
        have gL175_2 : jGet L175 2 = some (.int (i32 (r129))) := eL175 ▸ jg_ne (by decide) gL134_2 rfl
        have gL175_3 : jGet L175 3 = some (.int (i32 (0))) := eL175 ▸ jg_eq
        refine jx_ld (pc_q := 38) (l_q := L175) (st_q := [.ref 66]) rfl (jl_aloadn gL175_0) ?_
        refine jx_ld (pc_q := 39) (l_q := L175) (st_q := [.int (i32 (r129)), .ref 66]) rfl (jl_iloadn gL175_2) ?_
        refine jx_if_gt (pc_q := 42) (tg := 46) rfl rfl rfl (Int.le_trans (by decide : (-2147483648 : Int) ≤ -2147483648) b130.1) (Int.le_trans b130.2 (by decide : (2147483647 : Int) ≤ 2147483647)) (fun h176 => ?_) (fun h176 => ?_)
        · have _q := h176
          refine jx_ar (pc_q := 47) (st_q := [.int (i32 (4)), .ref 66]) rfl rfl rfl rfl ?_
          refine jx_go (tg := 51) rfl rfl ?_
          refine jr_put (pc_q := 54) (i := 11) (z := 4) rfl rfl (by decide) rfl rfl rfl rfl rfl rfl ?_
          have hW177 : Wk (uG G 11 (4)) A := Wk_g hW (show (0 : Int) ≤ 4 by omega) (show 4 ≤ (5 : Int) by omega)
          have hF178 := Fr_g (z := 4) (i := 11) hF0 (by decide)
          refine jx_ld (pc_q := 55) (l_q := L175) (st_q := [.ref 66]) rfl (jl_aloadn gL175_0) ?_
          refine jx_ld (pc_q := 56) (l_q := L175) (st_q := [.int (i32 (r129)), .ref 66]) rfl (jl_iloadn gL175_2) ?_
          refine jx_if_le (pc_q := 59) (tg := 63) rfl rfl rfl (Int.le_trans (by decide : (-2147483648 : Int) ≤ -2147483648) b130.1) (Int.le_trans b130.2 (by decide : (2147483647 : Int) ≤ 2147483647)) (fun h179 => ?_) (fun h179 => ?_)
          · have _q := h179
            refine jx_ld (pc_q := 64) (l_q := L175) (st_q := [.int (i32 (c)), .ref 66]) rfl (jl_iloadn gL175_1) ?_
            refine jr_put (pc_q := 67) (i := 13) (z := c) rfl rfl (by decide) rfl rfl rfl rfl rfl rfl ?_
            have hW180 : Wk (uG (uG G 11 (4)) 13 (c)) A := Wk_g hW177 (show (-2147483648 : Int) ≤ c by omega) (show c ≤ (2147483647 : Int) by omega)
            have hF181 := Fr_g (z := c) (i := 13) hF178 (by decide)
            refine jx_ld (pc_q := 68) (l_q := L175) (st_q := [.ref 66]) rfl (jl_aloadn gL175_0) ?_
            refine jx_ld (pc_q := 69) (l_q := L175) (st_q := [.int (i32 (r129)), .ref 66]) rfl (jl_iloadn gL175_2) ?_
            refine jx_if_le (pc_q := 72) (tg := 81) rfl rfl rfl (Int.le_trans (by decide : (-2147483648 : Int) ≤ -2147483648) b130.1) (Int.le_trans b130.2 (by decide : (2147483647 : Int) ≤ 2147483647)) (fun h182 => ?_) (fun h182 => ?_)
            · have _q := h182
              refine jx_ld (pc_q := 82) (l_q := L175) (st_q := [.ref 66, .ref 66]) rfl (jl_aloadn gL175_0) ?_
              refine jr_get (pc_q := 85) (i := 10) (v := .int (i32 (at0))) rfl rfl (by decide) (rFv_eq (by decide) (show (uG (uG G 11 (4)) 13 (c)) 10 = at0 from (e_at0))) rfl ?_
              refine jx_ar (pc_q := 86) (st_q := [.int (i32 (1)), .int (i32 (at0)), .ref 66]) rfl rfl rfl rfl ?_
              refine jx_add (pc_q := 87) rfl rfl ?_
              refine jr_put (pc_q := 90) (i := 10) (z := (at0 + 1)) rfl rfl (by decide) rfl rfl rfl rfl rfl rfl ?_
              have hW183 : Wk (uG (uG (uG G 11 (4)) 13 (c)) 10 ((at0 + 1))) A := Wk_g hW180 (show (0 : Int) ≤ (at0 + 1) by omega) (show (at0 + 1) ≤ (3002 : Int) by omega)
              have hF184 := Fr_g (z := (at0 + 1)) (i := 10) hF181 (by decide)
              refine jx_rt (v := none) rfl rfl rfl rfl rfl rfl ?_
              exact ⟨_, _, (at0 + 1), 4, rfl, rfl, hW183, hF184, rfl, rfl, by omega, by omega, by omega, trivial⟩
            · have _q := h182
              refine jx_ld (pc_q := 73) (l_q := L175) (st_q := [.ref 66, .ref 66]) rfl (jl_aloadn gL175_0) ?_
              refine jr_get (pc_q := 76) (i := 10) (v := .int (i32 (at0))) rfl rfl (by decide) (rFv_eq (by decide) (show (uG (uG G 11 (4)) 13 (c)) 10 = at0 from (e_at0))) rfl ?_
              refine jx_ar (pc_q := 77) (st_q := [.int (i32 (2)), .int (i32 (at0)), .ref 66]) rfl rfl rfl rfl ?_
              refine jx_add (pc_q := 78) rfl rfl ?_
              refine jx_go (tg := 87) rfl rfl ?_
              refine jr_put (pc_q := 90) (i := 10) (z := (at0 + 2)) rfl rfl (by decide) rfl rfl rfl rfl rfl rfl ?_
              have hW185 : Wk (uG (uG (uG G 11 (4)) 13 (c)) 10 ((at0 + 2))) A := Wk_g hW180 (show (0 : Int) ≤ (at0 + 2) by omega) (show (at0 + 2) ≤ (3002 : Int) by omega)
              have hF186 := Fr_g (z := (at0 + 2)) (i := 10) hF181 (by decide)
              refine jx_rt (v := none) rfl rfl rfl rfl rfl rfl ?_
              exact ⟨_, _, (at0 + 2), 4, rfl, rfl, hW185, hF186, rfl, rfl, by omega, by omega, by omega, trivial⟩
          · have _q := h179
            refine jx_ld (pc_q := 60) (l_q := L175) (st_q := [.int (i32 (r129)), .ref 66]) rfl (jl_iloadn gL175_2) ?_
            refine jx_go (tg := 64) rfl rfl ?_
            refine jr_put (pc_q := 67) (i := 13) (z := r129) rfl rfl (by decide) rfl rfl rfl rfl rfl rfl ?_
            have hW187 : Wk (uG (uG G 11 (4)) 13 (r129)) A := Wk_g hW177 (show (-2147483648 : Int) ≤ r129 by omega) (show r129 ≤ (2147483647 : Int) by omega)
            have hF188 := Fr_g (z := r129) (i := 13) hF178 (by decide)
            refine jx_ld (pc_q := 68) (l_q := L175) (st_q := [.ref 66]) rfl (jl_aloadn gL175_0) ?_
            refine jx_ld (pc_q := 69) (l_q := L175) (st_q := [.int (i32 (r129)), .ref 66]) rfl (jl_iloadn gL175_2) ?_
            refine jx_if_le (pc_q := 72) (tg := 81) rfl rfl rfl (Int.le_trans (by decide : (-2147483648 : Int) ≤ -2147483648) b130.1) (Int.le_trans b130.2 (by decide : (2147483647 : Int) ≤ 2147483647)) (fun h189 => ?_) (fun h189 => ?_)
            · have _q := h189
              refine jx_ld (pc_q := 82) (l_q := L175) (st_q := [.ref 66, .ref 66]) rfl (jl_aloadn gL175_0) ?_
              refine jr_get (pc_q := 85) (i := 10) (v := .int (i32 (at0))) rfl rfl (by decide) (rFv_eq (by decide) (show (uG (uG G 11 (4)) 13 (r129)) 10 = at0 from (e_at0))) rfl ?_
              refine jx_ar (pc_q := 86) (st_q := [.int (i32 (1)), .int (i32 (at0)), .ref 66]) rfl rfl rfl rfl ?_
              refine jx_add (pc_q := 87) rfl rfl ?_
              refine jr_put (pc_q := 90) (i := 10) (z := (at0 + 1)) rfl rfl (by decide) rfl rfl rfl rfl rfl rfl ?_
              have hW190 : Wk (uG (uG (uG G 11 (4)) 13 (r129)) 10 ((at0 + 1))) A := Wk_g hW187 (show (0 : Int) ≤ (at0 + 1) by omega) (show (at0 + 1) ≤ (3002 : Int) by omega)
              have hF191 := Fr_g (z := (at0 + 1)) (i := 10) hF188 (by decide)
              refine jx_rt (v := none) rfl rfl rfl rfl rfl rfl ?_
              exact ⟨_, _, (at0 + 1), 4, rfl, rfl, hW190, hF191, rfl, rfl, by omega, by omega, by omega, trivial⟩
            · have _q := h189
              refine jx_ld (pc_q := 73) (l_q := L175) (st_q := [.ref 66, .ref 66]) rfl (jl_aloadn gL175_0) ?_
              refine jr_get (pc_q := 76) (i := 10) (v := .int (i32 (at0))) rfl rfl (by decide) (rFv_eq (by decide) (show (uG (uG G 11 (4)) 13 (r129)) 10 = at0 from (e_at0))) rfl ?_
              refine jx_ar (pc_q := 77) (st_q := [.int (i32 (2)), .int (i32 (at0)), .ref 66]) rfl rfl rfl rfl ?_
              refine jx_add (pc_q := 78) rfl rfl ?_
              refine jx_go (tg := 87) rfl rfl ?_
              refine jr_put (pc_q := 90) (i := 10) (z := (at0 + 2)) rfl rfl (by decide) rfl rfl rfl rfl rfl rfl ?_
              have hW192 : Wk (uG (uG (uG G 11 (4)) 13 (r129)) 10 ((at0 + 2))) A := Wk_g hW187 (show (0 : Int) ≤ (at0 + 2) by omega) (show (at0 + 2) ≤ (3002 : Int) by omega)
              have hF193 := Fr_g (z := (at0 + 2)) (i := 10) hF188 (by decide)
              refine jx_rt (v := none) rfl rfl rfl rfl rfl rfl ?_
              exact ⟨_, _, (at0 + 2), 4, rfl, rfl, hW192, hF193, rfl, rfl, by omega, by omega, by omega, trivial⟩
        · have _q := h176
          refine jx_ld (pc_q := 43) (l_q := L175) (st_q := [.int (i32 (0)), .ref 66]) rfl (jl_iloadn gL175_3) ?_
          refine jx_if_eq (pc_q := 46) (tg := 50) rfl rfl rfl (by decide) (by decide) (fun h194 => ?_) (fun h194 => ?_)
          · have _q := h194
            refine jx_ar (pc_q := 51) (st_q := [.int (i32 (5)), .ref 66]) rfl rfl rfl rfl ?_
            refine jr_put (pc_q := 54) (i := 11) (z := 5) rfl rfl (by decide) rfl rfl rfl rfl rfl rfl ?_
            have hW195 : Wk (uG G 11 (5)) A := Wk_g hW (show (0 : Int) ≤ 5 by omega) (show 5 ≤ (5 : Int) by omega)
            have hF196 := Fr_g (z := 5) (i := 11) hF0 (by decide)
            refine jx_ld (pc_q := 55) (l_q := L175) (st_q := [.ref 66]) rfl (jl_aloadn gL175_0) ?_
            refine jx_ld (pc_q := 56) (l_q := L175) (st_q := [.int (i32 (r129)), .ref 66]) rfl (jl_iloadn gL175_2) ?_
            refine jx_if_le (pc_q := 59) (tg := 63) rfl rfl rfl (Int.le_trans (by decide : (-2147483648 : Int) ≤ -2147483648) b130.1) (Int.le_trans b130.2 (by decide : (2147483647 : Int) ≤ 2147483647)) (fun h197 => ?_) (fun h197 => ?_)
            · have _q := h197
              refine jx_ld (pc_q := 64) (l_q := L175) (st_q := [.int (i32 (c)), .ref 66]) rfl (jl_iloadn gL175_1) ?_
              refine jr_put (pc_q := 67) (i := 13) (z := c) rfl rfl (by decide) rfl rfl rfl rfl rfl rfl ?_
              have hW198 : Wk (uG (uG G 11 (5)) 13 (c)) A := Wk_g hW195 (show (-2147483648 : Int) ≤ c by omega) (show c ≤ (2147483647 : Int) by omega)
              have hF199 := Fr_g (z := c) (i := 13) hF196 (by decide)
              refine jx_ld (pc_q := 68) (l_q := L175) (st_q := [.ref 66]) rfl (jl_aloadn gL175_0) ?_
              refine jx_ld (pc_q := 69) (l_q := L175) (st_q := [.int (i32 (r129)), .ref 66]) rfl (jl_iloadn gL175_2) ?_
              refine jx_if_le (pc_q := 72) (tg := 81) rfl rfl rfl (Int.le_trans (by decide : (-2147483648 : Int) ≤ -2147483648) b130.1) (Int.le_trans b130.2 (by decide : (2147483647 : Int) ≤ 2147483647)) (fun h200 => ?_) (fun h200 => ?_)
              · have _q := h200
                refine jx_ld (pc_q := 82) (l_q := L175) (st_q := [.ref 66, .ref 66]) rfl (jl_aloadn gL175_0) ?_
                refine jr_get (pc_q := 85) (i := 10) (v := .int (i32 (at0))) rfl rfl (by decide) (rFv_eq (by decide) (show (uG (uG G 11 (5)) 13 (c)) 10 = at0 from (e_at0))) rfl ?_
                refine jx_ar (pc_q := 86) (st_q := [.int (i32 (1)), .int (i32 (at0)), .ref 66]) rfl rfl rfl rfl ?_
                refine jx_add (pc_q := 87) rfl rfl ?_
                refine jr_put (pc_q := 90) (i := 10) (z := (at0 + 1)) rfl rfl (by decide) rfl rfl rfl rfl rfl rfl ?_
                have hW201 : Wk (uG (uG (uG G 11 (5)) 13 (c)) 10 ((at0 + 1))) A := Wk_g hW198 (show (0 : Int) ≤ (at0 + 1) by omega) (show (at0 + 1) ≤ (3002 : Int) by omega)
                have hF202 := Fr_g (z := (at0 + 1)) (i := 10) hF199 (by decide)
                refine jx_rt (v := none) rfl rfl rfl rfl rfl rfl ?_
                exact ⟨_, _, (at0 + 1), 5, rfl, rfl, hW201, hF202, rfl, rfl, by omega, by omega, by omega, trivial⟩
              · have _q := h200
                refine jx_ld (pc_q := 73) (l_q := L175) (st_q := [.ref 66, .ref 66]) rfl (jl_aloadn gL175_0) ?_
                refine jr_get (pc_q := 76) (i := 10) (v := .int (i32 (at0))) rfl rfl (by decide) (rFv_eq (by decide) (show (uG (uG G 11 (5)) 13 (c)) 10 = at0 from (e_at0))) rfl ?_
                refine jx_ar (pc_q := 77) (st_q := [.int (i32 (2)), .int (i32 (at0)), .ref 66]) rfl rfl rfl rfl ?_
                refine jx_add (pc_q := 78) rfl rfl ?_
                refine jx_go (tg := 87) rfl rfl ?_
                refine jr_put (pc_q := 90) (i := 10) (z := (at0 + 2)) rfl rfl (by decide) rfl rfl rfl rfl rfl rfl ?_
                have hW203 : Wk (uG (uG (uG G 11 (5)) 13 (c)) 10 ((at0 + 2))) A := Wk_g hW198 (show (0 : Int) ≤ (at0 + 2) by omega) (show (at0 + 2) ≤ (3002 : Int) by omega)
                have hF204 := Fr_g (z := (at0 + 2)) (i := 10) hF199 (by decide)
                refine jx_rt (v := none) rfl rfl rfl rfl rfl rfl ?_
                exact ⟨_, _, (at0 + 2), 5, rfl, rfl, hW203, hF204, rfl, rfl, by omega, by omega, by omega, trivial⟩
            · have _q := h197
              refine jx_ld (pc_q := 60) (l_q := L175) (st_q := [.int (i32 (r129)), .ref 66]) rfl (jl_iloadn gL175_2) ?_
              refine jx_go (tg := 64) rfl rfl ?_
              refine jr_put (pc_q := 67) (i := 13) (z := r129) rfl rfl (by decide) rfl rfl rfl rfl rfl rfl ?_
              have hW205 : Wk (uG (uG G 11 (5)) 13 (r129)) A := Wk_g hW195 (show (-2147483648 : Int) ≤ r129 by omega) (show r129 ≤ (2147483647 : Int) by omega)
              have hF206 := Fr_g (z := r129) (i := 13) hF196 (by decide)
              refine jx_ld (pc_q := 68) (l_q := L175) (st_q := [.ref 66]) rfl (jl_aloadn gL175_0) ?_
              refine jx_ld (pc_q := 69) (l_q := L175) (st_q := [.int (i32 (r129)), .ref 66]) rfl (jl_iloadn gL175_2) ?_
              refine jx_if_le (pc_q := 72) (tg := 81) rfl rfl rfl (Int.le_trans (by decide : (-2147483648 : Int) ≤ -2147483648) b130.1) (Int.le_trans b130.2 (by decide : (2147483647 : Int) ≤ 2147483647)) (fun h207 => ?_) (fun h207 => ?_)
              · have _q := h207
                refine jx_ld (pc_q := 82) (l_q := L175) (st_q := [.ref 66, .ref 66]) rfl (jl_aloadn gL175_0) ?_
                refine jr_get (pc_q := 85) (i := 10) (v := .int (i32 (at0))) rfl rfl (by decide) (rFv_eq (by decide) (show (uG (uG G 11 (5)) 13 (r129)) 10 = at0 from (e_at0))) rfl ?_
                refine jx_ar (pc_q := 86) (st_q := [.int (i32 (1)), .int (i32 (at0)), .ref 66]) rfl rfl rfl rfl ?_
                refine jx_add (pc_q := 87) rfl rfl ?_
                refine jr_put (pc_q := 90) (i := 10) (z := (at0 + 1)) rfl rfl (by decide) rfl rfl rfl rfl rfl rfl ?_
                have hW208 : Wk (uG (uG (uG G 11 (5)) 13 (r129)) 10 ((at0 + 1))) A := Wk_g hW205 (show (0 : Int) ≤ (at0 + 1) by omega) (show (at0 + 1) ≤ (3002 : Int) by omega)
                have hF209 := Fr_g (z := (at0 + 1)) (i := 10) hF206 (by decide)
                refine jx_rt (v := none) rfl rfl rfl rfl rfl rfl ?_
                exact ⟨_, _, (at0 + 1), 5, rfl, rfl, hW208, hF209, rfl, rfl, by omega, by omega, by omega, trivial⟩
              · have _q := h207
                refine jx_ld (pc_q := 73) (l_q := L175) (st_q := [.ref 66, .ref 66]) rfl (jl_aloadn gL175_0) ?_
                refine jr_get (pc_q := 76) (i := 10) (v := .int (i32 (at0))) rfl rfl (by decide) (rFv_eq (by decide) (show (uG (uG G 11 (5)) 13 (r129)) 10 = at0 from (e_at0))) rfl ?_
                refine jx_ar (pc_q := 77) (st_q := [.int (i32 (2)), .int (i32 (at0)), .ref 66]) rfl rfl rfl rfl ?_
                refine jx_add (pc_q := 78) rfl rfl ?_
                refine jx_go (tg := 87) rfl rfl ?_
                refine jr_put (pc_q := 90) (i := 10) (z := (at0 + 2)) rfl rfl (by decide) rfl rfl rfl rfl rfl rfl ?_
                have hW210 : Wk (uG (uG (uG G 11 (5)) 13 (r129)) 10 ((at0 + 2))) A := Wk_g hW205 (show (0 : Int) ≤ (at0 + 2) by omega) (show (at0 + 2) ≤ (3002 : Int) by omega)
                have hF211 := Fr_g (z := (at0 + 2)) (i := 10) hF206 (by decide)
                refine jx_rt (v := none) rfl rfl rfl rfl rfl rfl ?_
                exact ⟨_, _, (at0 + 2), 5, rfl, rfl, hW210, hF211, rfl, rfl, by omega, by omega, by omega, trivial⟩
          · have _q := h194
            exact absurd h194 (by omega)
      · have _q := h174
        refine jx_ar (pc_q := 32) (st_q := [.int (i32 (1))]) rfl rfl rfl rfl ?_
        refine jx_go (tg := 36) rfl rfl ?_
        refine jx_ld (pc_q := 37) (l_q := jSto1 L134 3 (.int (i32 (1)))) (st_q := []) rfl rfl ?_
        obtain ⟨L212, eL212⟩ : ∃ q, q = jSto1 L134 3 (.int (i32 (1))) := ⟨_, rfl⟩
        rw [← eL212]
        have gL212_0 : jGet L212 0 = some (.ref 66) := eL212 ▸ jg_ne (by decide) gL134_0 rfl
        have gL212_1 : jGet L212 1 = some (.int (i32 (c))) := eL212 ▸ jg_ne (by decide) gL134_1 rfl
        have gL212_2 : jGet L212 2 = some (.int (i32 (r129))) := eL212 ▸ jg_ne (by decide) gL134_2 rfl
        have gL212_3 : jGet L212 3 = some (.int (i32 (1))) := eL212 ▸ jg_eq
        refine jx_ld (pc_q := 38) (l_q := L212) (st_q := [.ref 66]) rfl (jl_aloadn gL212_0) ?_
        refine jx_ld (pc_q := 39) (l_q := L212) (st_q := [.int (i32 (r129)), .ref 66]) rfl (jl_iloadn gL212_2) ?_
        refine jx_if_gt (pc_q := 42) (tg := 46) rfl rfl rfl (Int.le_trans (by decide : (-2147483648 : Int) ≤ -2147483648) b130.1) (Int.le_trans b130.2 (by decide : (2147483647 : Int) ≤ 2147483647)) (fun h213 => ?_) (fun h213 => ?_)
        · have _q := h213
          refine jx_ar (pc_q := 47) (st_q := [.int (i32 (4)), .ref 66]) rfl rfl rfl rfl ?_
          refine jx_go (tg := 51) rfl rfl ?_
          refine jr_put (pc_q := 54) (i := 11) (z := 4) rfl rfl (by decide) rfl rfl rfl rfl rfl rfl ?_
          have hW214 : Wk (uG G 11 (4)) A := Wk_g hW (show (0 : Int) ≤ 4 by omega) (show 4 ≤ (5 : Int) by omega)
          have hF215 := Fr_g (z := 4) (i := 11) hF0 (by decide)
          refine jx_ld (pc_q := 55) (l_q := L212) (st_q := [.ref 66]) rfl (jl_aloadn gL212_0) ?_
          refine jx_ld (pc_q := 56) (l_q := L212) (st_q := [.int (i32 (r129)), .ref 66]) rfl (jl_iloadn gL212_2) ?_
          refine jx_if_le (pc_q := 59) (tg := 63) rfl rfl rfl (Int.le_trans (by decide : (-2147483648 : Int) ≤ -2147483648) b130.1) (Int.le_trans b130.2 (by decide : (2147483647 : Int) ≤ 2147483647)) (fun h216 => ?_) (fun h216 => ?_)
          · have _q := h216
            refine jx_ld (pc_q := 64) (l_q := L212) (st_q := [.int (i32 (c)), .ref 66]) rfl (jl_iloadn gL212_1) ?_
            refine jr_put (pc_q := 67) (i := 13) (z := c) rfl rfl (by decide) rfl rfl rfl rfl rfl rfl ?_
            have hW217 : Wk (uG (uG G 11 (4)) 13 (c)) A := Wk_g hW214 (show (-2147483648 : Int) ≤ c by omega) (show c ≤ (2147483647 : Int) by omega)
            have hF218 := Fr_g (z := c) (i := 13) hF215 (by decide)
            refine jx_ld (pc_q := 68) (l_q := L212) (st_q := [.ref 66]) rfl (jl_aloadn gL212_0) ?_
            refine jx_ld (pc_q := 69) (l_q := L212) (st_q := [.int (i32 (r129)), .ref 66]) rfl (jl_iloadn gL212_2) ?_
            refine jx_if_le (pc_q := 72) (tg := 81) rfl rfl rfl (Int.le_trans (by decide : (-2147483648 : Int) ≤ -2147483648) b130.1) (Int.le_trans b130.2 (by decide : (2147483647 : Int) ≤ 2147483647)) (fun h219 => ?_) (fun h219 => ?_)
            · have _q := h219
              refine jx_ld (pc_q := 82) (l_q := L212) (st_q := [.ref 66, .ref 66]) rfl (jl_aloadn gL212_0) ?_
              refine jr_get (pc_q := 85) (i := 10) (v := .int (i32 (at0))) rfl rfl (by decide) (rFv_eq (by decide) (show (uG (uG G 11 (4)) 13 (c)) 10 = at0 from (e_at0))) rfl ?_
              refine jx_ar (pc_q := 86) (st_q := [.int (i32 (1)), .int (i32 (at0)), .ref 66]) rfl rfl rfl rfl ?_
              refine jx_add (pc_q := 87) rfl rfl ?_
              refine jr_put (pc_q := 90) (i := 10) (z := (at0 + 1)) rfl rfl (by decide) rfl rfl rfl rfl rfl rfl ?_
              have hW220 : Wk (uG (uG (uG G 11 (4)) 13 (c)) 10 ((at0 + 1))) A := Wk_g hW217 (show (0 : Int) ≤ (at0 + 1) by omega) (show (at0 + 1) ≤ (3002 : Int) by omega)
              have hF221 := Fr_g (z := (at0 + 1)) (i := 10) hF218 (by decide)
              refine jx_rt (v := none) rfl rfl rfl rfl rfl rfl ?_
              exact ⟨_, _, (at0 + 1), 4, rfl, rfl, hW220, hF221, rfl, rfl, by omega, by omega, by omega, trivial⟩
            · have _q := h219
              refine jx_ld (pc_q := 73) (l_q := L212) (st_q := [.ref 66, .ref 66]) rfl (jl_aloadn gL212_0) ?_
              refine jr_get (pc_q := 76) (i := 10) (v := .int (i32 (at0))) rfl rfl (by decide) (rFv_eq (by decide) (show (uG (uG G 11 (4)) 13 (c)) 10 = at0 from (e_at0))) rfl ?_
              refine jx_ar (pc_q := 77) (st_q := [.int (i32 (2)), .int (i32 (at0)), .ref 66]) rfl rfl rfl rfl ?_
              refine jx_add (pc_q := 78) rfl rfl ?_
              refine jx_go (tg := 87) rfl rfl ?_
              refine jr_put (pc_q := 90) (i := 10) (z := (at0 + 2)) rfl rfl (by decide) rfl rfl rfl rfl rfl rfl ?_
              have hW222 : Wk (uG (uG (uG G 11 (4)) 13 (c)) 10 ((at0 + 2))) A := Wk_g hW217 (show (0 : Int) ≤ (at0 + 2) by omega) (show (at0 + 2) ≤ (3002 : Int) by omega)
              have hF223 := Fr_g (z := (at0 + 2)) (i := 10) hF218 (by decide)
              refine jx_rt (v := none) rfl rfl rfl rfl rfl rfl ?_
              exact ⟨_, _, (at0 + 2), 4, rfl, rfl, hW222, hF223, rfl, rfl, by omega, by omega, by omega, trivial⟩
          · have _q := h216
            refine jx_ld (pc_q := 60) (l_q := L212) (st_q := [.int (i32 (r129)), .ref 66]) rfl (jl_iloadn gL212_2) ?_
            refine jx_go (tg := 64) rfl rfl ?_
            refine jr_put (pc_q := 67) (i := 13) (z := r129) rfl rfl (by decide) rfl rfl rfl rfl rfl rfl ?_
            have hW224 : Wk (uG (uG G 11 (4)) 13 (r129)) A := Wk_g hW214 (show (-2147483648 : Int) ≤ r129 by omega) (show r129 ≤ (2147483647 : Int) by omega)
            have hF225 := Fr_g (z := r129) (i := 13) hF215 (by decide)
            refine jx_ld (pc_q := 68) (l_q := L212) (st_q := [.ref 66]) rfl (jl_aloadn gL212_0) ?_
            refine jx_ld (pc_q := 69) (l_q := L212) (st_q := [.int (i32 (r129)), .ref 66]) rfl (jl_iloadn gL212_2) ?_
            refine jx_if_le (pc_q := 72) (tg := 81) rfl rfl rfl (Int.le_trans (by decide : (-2147483648 : Int) ≤ -2147483648) b130.1) (Int.le_trans b130.2 (by decide : (2147483647 : Int) ≤ 2147483647)) (fun h226 => ?_) (fun h226 => ?_)
            · have _q := h226
              refine jx_ld (pc_q := 82) (l_q := L212) (st_q := [.ref 66, .ref 66]) rfl (jl_aloadn gL212_0) ?_
              refine jr_get (pc_q := 85) (i := 10) (v := .int (i32 (at0))) rfl rfl (by decide) (rFv_eq (by decide) (show (uG (uG G 11 (4)) 13 (r129)) 10 = at0 from (e_at0))) rfl ?_
              refine jx_ar (pc_q := 86) (st_q := [.int (i32 (1)), .int (i32 (at0)), .ref 66]) rfl rfl rfl rfl ?_
              refine jx_add (pc_q := 87) rfl rfl ?_
              refine jr_put (pc_q := 90) (i := 10) (z := (at0 + 1)) rfl rfl (by decide) rfl rfl rfl rfl rfl rfl ?_
              have hW227 : Wk (uG (uG (uG G 11 (4)) 13 (r129)) 10 ((at0 + 1))) A := Wk_g hW224 (show (0 : Int) ≤ (at0 + 1) by omega) (show (at0 + 1) ≤ (3002 : Int) by omega)
              have hF228 := Fr_g (z := (at0 + 1)) (i := 10) hF225 (by decide)
              refine jx_rt (v := none) rfl rfl rfl rfl rfl rfl ?_
              exact ⟨_, _, (at0 + 1), 4, rfl, rfl, hW227, hF228, rfl, rfl, by omega, by omega, by omega, trivial⟩
            · have _q := h226
              refine jx_ld (pc_q := 73) (l_q := L212) (st_q := [.ref 66, .ref 66]) rfl (jl_aloadn gL212_0) ?_
              refine jr_get (pc_q := 76) (i := 10) (v := .int (i32 (at0))) rfl rfl (by decide) (rFv_eq (by decide) (show (uG (uG G 11 (4)) 13 (r129)) 10 = at0 from (e_at0))) rfl ?_
              refine jx_ar (pc_q := 77) (st_q := [.int (i32 (2)), .int (i32 (at0)), .ref 66]) rfl rfl rfl rfl ?_
              refine jx_add (pc_q := 78) rfl rfl ?_
              refine jx_go (tg := 87) rfl rfl ?_
              refine jr_put (pc_q := 90) (i := 10) (z := (at0 + 2)) rfl rfl (by decide) rfl rfl rfl rfl rfl rfl ?_
              have hW229 : Wk (uG (uG (uG G 11 (4)) 13 (r129)) 10 ((at0 + 2))) A := Wk_g hW224 (show (0 : Int) ≤ (at0 + 2) by omega) (show (at0 + 2) ≤ (3002 : Int) by omega)
              have hF230 := Fr_g (z := (at0 + 2)) (i := 10) hF225 (by decide)
              refine jx_rt (v := none) rfl rfl rfl rfl rfl rfl ?_
              exact ⟨_, _, (at0 + 2), 4, rfl, rfl, hW229, hF230, rfl, rfl, by omega, by omega, by omega, trivial⟩
        · have _q := h213
          refine jx_ld (pc_q := 43) (l_q := L212) (st_q := [.int (i32 (1)), .ref 66]) rfl (jl_iloadn gL212_3) ?_
          refine jx_if_eq (pc_q := 46) (tg := 50) rfl rfl rfl (by decide) (by decide) (fun h231 => ?_) (fun h231 => ?_)
          · have _q := h231
            exact absurd h231 (by omega)
          · have _q := h231
            refine jx_ar (pc_q := 47) (st_q := [.int (i32 (4)), .ref 66]) rfl rfl rfl rfl ?_
            refine jx_go (tg := 51) rfl rfl ?_
            refine jr_put (pc_q := 54) (i := 11) (z := 4) rfl rfl (by decide) rfl rfl rfl rfl rfl rfl ?_
            have hW232 : Wk (uG G 11 (4)) A := Wk_g hW (show (0 : Int) ≤ 4 by omega) (show 4 ≤ (5 : Int) by omega)
            have hF233 := Fr_g (z := 4) (i := 11) hF0 (by decide)
            refine jx_ld (pc_q := 55) (l_q := L212) (st_q := [.ref 66]) rfl (jl_aloadn gL212_0) ?_
            refine jx_ld (pc_q := 56) (l_q := L212) (st_q := [.int (i32 (r129)), .ref 66]) rfl (jl_iloadn gL212_2) ?_
            refine jx_if_le (pc_q := 59) (tg := 63) rfl rfl rfl (Int.le_trans (by decide : (-2147483648 : Int) ≤ -2147483648) b130.1) (Int.le_trans b130.2 (by decide : (2147483647 : Int) ≤ 2147483647)) (fun h234 => ?_) (fun h234 => ?_)
            · have _q := h234
              refine jx_ld (pc_q := 64) (l_q := L212) (st_q := [.int (i32 (c)), .ref 66]) rfl (jl_iloadn gL212_1) ?_
              refine jr_put (pc_q := 67) (i := 13) (z := c) rfl rfl (by decide) rfl rfl rfl rfl rfl rfl ?_
              have hW235 : Wk (uG (uG G 11 (4)) 13 (c)) A := Wk_g hW232 (show (-2147483648 : Int) ≤ c by omega) (show c ≤ (2147483647 : Int) by omega)
              have hF236 := Fr_g (z := c) (i := 13) hF233 (by decide)
              refine jx_ld (pc_q := 68) (l_q := L212) (st_q := [.ref 66]) rfl (jl_aloadn gL212_0) ?_
              refine jx_ld (pc_q := 69) (l_q := L212) (st_q := [.int (i32 (r129)), .ref 66]) rfl (jl_iloadn gL212_2) ?_
              refine jx_if_le (pc_q := 72) (tg := 81) rfl rfl rfl (Int.le_trans (by decide : (-2147483648 : Int) ≤ -2147483648) b130.1) (Int.le_trans b130.2 (by decide : (2147483647 : Int) ≤ 2147483647)) (fun h237 => ?_) (fun h237 => ?_)
              · have _q := h237
                refine jx_ld (pc_q := 82) (l_q := L212) (st_q := [.ref 66, .ref 66]) rfl (jl_aloadn gL212_0) ?_
                refine jr_get (pc_q := 85) (i := 10) (v := .int (i32 (at0))) rfl rfl (by decide) (rFv_eq (by decide) (show (uG (uG G 11 (4)) 13 (c)) 10 = at0 from (e_at0))) rfl ?_
                refine jx_ar (pc_q := 86) (st_q := [.int (i32 (1)), .int (i32 (at0)), .ref 66]) rfl rfl rfl rfl ?_
                refine jx_add (pc_q := 87) rfl rfl ?_
                refine jr_put (pc_q := 90) (i := 10) (z := (at0 + 1)) rfl rfl (by decide) rfl rfl rfl rfl rfl rfl ?_
                have hW238 : Wk (uG (uG (uG G 11 (4)) 13 (c)) 10 ((at0 + 1))) A := Wk_g hW235 (show (0 : Int) ≤ (at0 + 1) by omega) (show (at0 + 1) ≤ (3002 : Int) by omega)
                have hF239 := Fr_g (z := (at0 + 1)) (i := 10) hF236 (by decide)
                refine jx_rt (v := none) rfl rfl rfl rfl rfl rfl ?_
                exact ⟨_, _, (at0 + 1), 4, rfl, rfl, hW238, hF239, rfl, rfl, by omega, by omega, by omega, trivial⟩
              · have _q := h237
                refine jx_ld (pc_q := 73) (l_q := L212) (st_q := [.ref 66, .ref 66]) rfl (jl_aloadn gL212_0) ?_
                refine jr_get (pc_q := 76) (i := 10) (v := .int (i32 (at0))) rfl rfl (by decide) (rFv_eq (by decide) (show (uG (uG G 11 (4)) 13 (c)) 10 = at0 from (e_at0))) rfl ?_
                refine jx_ar (pc_q := 77) (st_q := [.int (i32 (2)), .int (i32 (at0)), .ref 66]) rfl rfl rfl rfl ?_
                refine jx_add (pc_q := 78) rfl rfl ?_
                refine jx_go (tg := 87) rfl rfl ?_
                refine jr_put (pc_q := 90) (i := 10) (z := (at0 + 2)) rfl rfl (by decide) rfl rfl rfl rfl rfl rfl ?_
                have hW240 : Wk (uG (uG (uG G 11 (4)) 13 (c)) 10 ((at0 + 2))) A := Wk_g hW235 (show (0 : Int) ≤ (at0 + 2) by omega) (show (at0 + 2) ≤ (3002 : Int) by omega)
                have hF241 := Fr_g (z := (at0 + 2)) (i := 10) hF236 (by decide)
                refine jx_rt (v := none) rfl rfl rfl rfl rfl rfl ?_
                exact ⟨_, _, (at0 + 2), 4, rfl, rfl, hW240, hF241, rfl, rfl, by omega, by omega, by omega, trivial⟩
            · have _q := h234
              refine jx_ld (pc_q := 60) (l_q := L212) (st_q := [.int (i32 (r129)), .ref 66]) rfl (jl_iloadn gL212_2) ?_
              refine jx_go (tg := 64) rfl rfl ?_
              refine jr_put (pc_q := 67) (i := 13) (z := r129) rfl rfl (by decide) rfl rfl rfl rfl rfl rfl ?_
              have hW242 : Wk (uG (uG G 11 (4)) 13 (r129)) A := Wk_g hW232 (show (-2147483648 : Int) ≤ r129 by omega) (show r129 ≤ (2147483647 : Int) by omega)
              have hF243 := Fr_g (z := r129) (i := 13) hF233 (by decide)
              refine jx_ld (pc_q := 68) (l_q := L212) (st_q := [.ref 66]) rfl (jl_aloadn gL212_0) ?_
              refine jx_ld (pc_q := 69) (l_q := L212) (st_q := [.int (i32 (r129)), .ref 66]) rfl (jl_iloadn gL212_2) ?_
              refine jx_if_le (pc_q := 72) (tg := 81) rfl rfl rfl (Int.le_trans (by decide : (-2147483648 : Int) ≤ -2147483648) b130.1) (Int.le_trans b130.2 (by decide : (2147483647 : Int) ≤ 2147483647)) (fun h244 => ?_) (fun h244 => ?_)
              · have _q := h244
                refine jx_ld (pc_q := 82) (l_q := L212) (st_q := [.ref 66, .ref 66]) rfl (jl_aloadn gL212_0) ?_
                refine jr_get (pc_q := 85) (i := 10) (v := .int (i32 (at0))) rfl rfl (by decide) (rFv_eq (by decide) (show (uG (uG G 11 (4)) 13 (r129)) 10 = at0 from (e_at0))) rfl ?_
                refine jx_ar (pc_q := 86) (st_q := [.int (i32 (1)), .int (i32 (at0)), .ref 66]) rfl rfl rfl rfl ?_
                refine jx_add (pc_q := 87) rfl rfl ?_
                refine jr_put (pc_q := 90) (i := 10) (z := (at0 + 1)) rfl rfl (by decide) rfl rfl rfl rfl rfl rfl ?_
                have hW245 : Wk (uG (uG (uG G 11 (4)) 13 (r129)) 10 ((at0 + 1))) A := Wk_g hW242 (show (0 : Int) ≤ (at0 + 1) by omega) (show (at0 + 1) ≤ (3002 : Int) by omega)
                have hF246 := Fr_g (z := (at0 + 1)) (i := 10) hF243 (by decide)
                refine jx_rt (v := none) rfl rfl rfl rfl rfl rfl ?_
                exact ⟨_, _, (at0 + 1), 4, rfl, rfl, hW245, hF246, rfl, rfl, by omega, by omega, by omega, trivial⟩
              · have _q := h244
                refine jx_ld (pc_q := 73) (l_q := L212) (st_q := [.ref 66, .ref 66]) rfl (jl_aloadn gL212_0) ?_
                refine jr_get (pc_q := 76) (i := 10) (v := .int (i32 (at0))) rfl rfl (by decide) (rFv_eq (by decide) (show (uG (uG G 11 (4)) 13 (r129)) 10 = at0 from (e_at0))) rfl ?_
                refine jx_ar (pc_q := 77) (st_q := [.int (i32 (2)), .int (i32 (at0)), .ref 66]) rfl rfl rfl rfl ?_
                refine jx_add (pc_q := 78) rfl rfl ?_
                refine jx_go (tg := 87) rfl rfl ?_
                refine jr_put (pc_q := 90) (i := 10) (z := (at0 + 2)) rfl rfl (by decide) rfl rfl rfl rfl rfl rfl ?_
                have hW247 : Wk (uG (uG (uG G 11 (4)) 13 (r129)) 10 ((at0 + 2))) A := Wk_g hW242 (show (0 : Int) ≤ (at0 + 2) by omega) (show (at0 + 2) ≤ (3002 : Int) by omega)
                have hF248 := Fr_g (z := (at0 + 2)) (i := 10) hF243 (by decide)
                refine jx_rt (v := none) rfl rfl rfl rfl rfl rfl ?_
                exact ⟨_, _, (at0 + 2), 4, rfl, rfl, hW247, hF248, rfl, rfl, by omega, by omega, by omega, trivial⟩
set_option maxRecDepth 20000 in
set_option maxHeartbeats 4000000 in
theorem c_next {X : jX} {dd : Nat} {c0 c1 : jC} {G : Nat → Int} {A : Nat → Nat → Int} {T : jH} {ln le at0 : Int} (hd : 4 ≤ dd) (hW : Wk G A) (e_ln : G 9 = ln) (e_le : A 4 (ln).toNat = le) (e_at0 : G 10 = at0) (p_0 : at0 ≤ le) : wk X dd 259 [.ref 66] (rV c0 c1 G A T) (fun o V_q => ∃ (G_q : Nat → Int) (A_q : Nat → Nat → Int) (at2 : Int) (tk2 : Int), V_q = rV c0 c1 G_q A_q T ∧ o = .inl none ∧ Wk G_q A_q ∧ Fr [10, 11, 12, 13, 14] [] G A G_q A_q ∧ G_q 10 = at2 ∧ G_q 11 = tk2 ∧ (at0 ≤ at2) ∧ (at2 ≤ le) ∧ (2 * at0 ≤ 2 * at2 - tz tk2) ∧ True) := by
  obtain ⟨d, rfl⟩ : ∃ d, dd = d + 1 := ⟨dd - 1, by omega⟩
  refine wk_of (e := jm259) rfl (Nat.le_of_ble_eq_true rfl) ?_
  show wj X d jm259 (0, [(0, .ref 66)], [], rV c0 c1 G A T) _
  have hF0 : Fr [10, 11, 12, 13, 14] [] G A G A := Fr_rf
  have b_ln : (0 : Int) ≤ ln ∧ ln ≤ 3000 := e_ln ▸ hW.1 9
  have b_le : (0 : Int) ≤ le ∧ le ≤ 3000 := e_le ▸ hW.2 4 _
  have b_at0 : (0 : Int) ≤ at0 ∧ at0 ≤ 3002 := e_at0 ▸ hW.1 10
  have at_0 : ∀ (m : Nat) (L : jL) (Gx : Nat → Int) (Ax : Nat → Nat → Int) (at1 : Int), (3002 - at1).toNat = m → jGet L 0 = some (.ref 66) → Wk Gx Ax → Fr [10, 11, 12, 13, 14] [] G A Gx Ax → Gx 10 = at1 → (at0 ≤ at1) → (at1 ≤ le) → wj X d jm259 (0, L, [], rV c0 c1 Gx Ax T) (fun o V_q => ∃ (G_q : Nat → Int) (A_q : Nat → Nat → Int) (at2 : Int) (tk2 : Int), V_q = rV c0 c1 G_q A_q T ∧ o = .inl none ∧ Wk G_q A_q ∧ Fr [10, 11, 12, 13, 14] [] G A G_q A_q ∧ G_q 10 = at2 ∧ G_q 11 = tk2 ∧ (at0 ≤ at2) ∧ (at2 ≤ le) ∧ (2 * at0 ≤ 2 * at2 - tz tk2) ∧ True) := by
    intro m
    induction m using Nat.strongRecOn with
    | ind m ih0 =>
      intro L Gx Ax at1 hm gL_0 hWx hFx ex_at1 iv_0 iv_1
      have b_at1 : (0 : Int) ≤ at1 ∧ at1 ≤ 3002 := ex_at1 ▸ hWx.1 10
      refine jx_ld (pc_q := 1) (l_q := L) (st_q := [.ref 66]) rfl (jl_aloadn gL_0) ?_
      refine jx_ld (pc_q := 2) (l_q := L) (st_q := [.ref 66, .ref 66]) rfl (jl_aloadn gL_0) ?_
      refine jr_get (pc_q := 5) (i := 10) (v := .int (i32 (at1))) rfl rfl (by decide) (rFv_eq (by decide) (show Gx 10 = at1 from (ex_at1))) rfl ?_
      have b1 : (0 : Int) ≤ A 0 (at1).toNat ∧ A 0 (at1).toNat ≤ 126 := hW.2 0 _
      refine jx_vr (pc_q := 8) (as := [.int (i32 (at1))]) (st := []) rfl rfl rfl rfl ⟨rfl, rfl, Nat.le_of_ble_eq_true rfl⟩ rfl rfl (c_sign (dd := d) (hd := by omega) (hW := hWx) (k := at1) (ln := ln) (e_ln := show Gx 9 = ln from ((hFx.1 9 rfl).trans (e_ln))) (le := le) (e_le := show Ax 4 (ln).toNat = le from (congrFun (hFx.2 4 rfl) _).trans (e_le)) (tx := A 0 (at1).toNat) (e_tx := show Ax 0 (at1).toNat = A 0 (at1).toNat from (congrFun (hFx.2 0 rfl) _))  (h_k := ⟨(Int.le_trans (by decide : (-2147483648 : Int) ≤ 0) b_at1.1), (Int.le_trans b_at1.2 (by decide : (3002 : Int) ≤ 2147483647))⟩)  (p_0 := by omega)) (fun o V_q hq => ?_)
      obtain ⟨r2, rfl, rfl, b3, q4⟩ := hq
      refine .inr ⟨_, rfl, ?_⟩
      rcases q4 with ⟨a5, a6⟩ | ⟨a7, a8⟩
      · have _q : True := trivial
        refine jx_ar (pc_q := 10) (st_q := [.int (i32 (32)), .int (i32 (r2))]) rfl rfl rfl rfl ?_
        refine jx_icmp_ne (pc_q := 13) (tg := 26) rfl rfl rfl (Int.le_trans (by decide : (-2147483648 : Int) ≤ -2147483648) b3.1) (Int.le_trans b3.2 (by decide : (2147483647 : Int) ≤ 2147483647)) (by decide) (by decide) (fun h9 => ?_) (fun h9 => ?_)
        · have _q := h9
          refine jx_ld (pc_q := 27) (l_q := L) (st_q := [.ref 66]) rfl (jl_aloadn gL_0) ?_
          refine jx_ld (pc_q := 28) (l_q := L) (st_q := [.ref 66, .ref 66]) rfl (jl_aloadn gL_0) ?_
          refine jr_get (pc_q := 31) (i := 10) (v := .int (i32 (at1))) rfl rfl (by decide) (rFv_eq (by decide) (show Gx 10 = at1 from (ex_at1))) rfl ?_
          refine jx_ld (pc_q := 32) (l_q := L) (st_q := [.ref 66, .int (i32 (at1)), .ref 66]) rfl (jl_aloadn gL_0) ?_
          refine jr_get (pc_q := 35) (i := 5) (v := .ref 69) rfl rfl (by decide) rfl rfl ?_
          refine jx_ld (pc_q := 36) (l_q := L) (st_q := [.ref 66, .ref 69, .int (i32 (at1)), .ref 66]) rfl (jl_aloadn gL_0) ?_
          refine jr_get (pc_q := 39) (i := 9) (v := .int (i32 (ln))) rfl rfl (by decide) (rFv_eq (by decide) (show Gx 9 = ln from ((hFx.1 9 rfl).trans (e_ln)))) rfl ?_
          have b10 : (0 : Int) ≤ A 2 (ln).toNat ∧ A 2 (ln).toNat ≤ 3000 := hW.2 2 _
          refine jr_ldv (pc_q := 40) (i := 2) (m := 3001) (z := ln) (y := A 2 (ln).toNat) rfl (by decide) rfl (by decide) (Int.le_trans (by decide : (0 : Int) ≤ 0) b_ln.1) (Int.lt_of_le_of_lt b_ln.2 (by decide : (3000 : Int) < ((3001 : Nat) : Int))) rfl (show Ax 2 (ln).toNat = A 2 (ln).toNat from (congrFun (hFx.2 2 rfl) _)) ?_
          refine jx_sub (pc_q := 41) rfl rfl ?_
          refine jr_put (pc_q := 44) (i := 12) (z := (at1 - A 2 (ln).toNat)) rfl rfl (by decide) rfl rfl rfl rfl rfl rfl ?_
          have hW11 : Wk (uG Gx 12 ((at1 - A 2 (ln).toNat))) Ax := Wk_g hWx (show (-3000 : Int) ≤ (at1 - A 2 (ln).toNat) by omega) (show (at1 - A 2 (ln).toNat) ≤ (3002 : Int) by omega)
          have hF12 := Fr_g (z := (at1 - A 2 (ln).toNat)) (i := 12) hFx (by decide)
          refine jx_ld (pc_q := 45) (l_q := L) (st_q := [.ref 66]) rfl (jl_aloadn gL_0) ?_
          refine jx_ld (pc_q := 46) (l_q := L) (st_q := [.ref 66, .ref 66]) rfl (jl_aloadn gL_0) ?_
          refine jr_get (pc_q := 49) (i := 10) (v := .int (i32 (at1))) rfl rfl (by decide) (rFv_eq (by decide) (show (uG Gx 12 ((at1 - A 2 (ln).toNat))) 10 = at1 from (ex_at1))) rfl ?_
          refine jx_vr (pc_q := 52) (as := [.int (i32 (at1))]) (st := []) rfl rfl rfl rfl ⟨rfl, rfl, Nat.le_of_ble_eq_true rfl⟩ rfl rfl (c_sign (dd := d) (hd := by omega) (hW := hW11) (k := at1) (ln := ln) (e_ln := show (uG Gx 12 ((at1 - A 2 (ln).toNat))) 9 = ln from ((hFx.1 9 rfl).trans (e_ln))) (le := le) (e_le := show Ax 4 (ln).toNat = le from (congrFun (hFx.2 4 rfl) _).trans (e_le)) (tx := A 0 (at1).toNat) (e_tx := show Ax 0 (at1).toNat = A 0 (at1).toNat from (congrFun (hFx.2 0 rfl) _))  (h_k := ⟨(Int.le_trans (by decide : (-2147483648 : Int) ≤ 0) b_at1.1), (Int.le_trans b_at1.2 (by decide : (3002 : Int) ≤ 2147483647))⟩)  (p_0 := by omega)) (fun o V_q hq => ?_)
          obtain ⟨r13, rfl, rfl, b14, q15⟩ := hq
          refine .inr ⟨_, rfl, ?_⟩
          rcases q15 with ⟨a16, a17⟩ | ⟨a18, a19⟩
          · have _q : True := trivial
            refine jx_ld (pc_q := 53) (l_q := jSto1 L 1 (.int (i32 (r13)))) (st_q := []) rfl rfl ?_
            obtain ⟨L20, eL20⟩ : ∃ q, q = jSto1 L 1 (.int (i32 (r13))) := ⟨_, rfl⟩
            rw [← eL20]
            have gL20_0 : jGet L20 0 = some (.ref 66) := eL20 ▸ jg_ne (by decide) gL_0 rfl
            have gL20_1 : jGet L20 1 = some (.int (i32 (r13))) := eL20 ▸ jg_eq
            refine jx_ld (pc_q := 54) (l_q := L20) (st_q := [.int (i32 (r13))]) rfl (jl_iloadn gL20_1) ?_
            refine jx_if_ne (pc_q := 57) (tg := 88) rfl rfl rfl (Int.le_trans (by decide : (-2147483648 : Int) ≤ -2147483648) b14.1) (Int.le_trans b14.2 (by decide : (2147483647 : Int) ≤ 2147483647)) (fun h21 => ?_) (fun h21 => ?_)
            · have _q := h21
              refine jx_ld (pc_q := 89) (l_q := L20) (st_q := [.int (i32 (r13))]) rfl (jl_iloadn gL20_1) ?_
              refine jx_st (pc_q := 92) (as := [.int (i32 (r13))]) (st := []) rfl rfl ⟨rfl, Nat.le_of_ble_eq_true rfl⟩ rfl rfl rfl (c_isSmall (dd := d) (hd := by omega) (v := r13)   (h_v := ⟨(Int.le_trans (by decide : (-2147483648 : Int) ≤ -2147483648) b14.1), (Int.le_trans b14.2 (by decide : (2147483647 : Int) ≤ 2147483647))⟩)  ) (fun o V_q hq => ?_)
              obtain ⟨r22, rfl, rfl, b23, q24⟩ := hq
              refine .inr ⟨_, rfl, ?_⟩
              rcases q24 with ⟨rfl, a25, a26⟩ | ⟨rfl, a27⟩
              · have _q : True := trivial
                refine jx_if_eq (pc_q := 95) (tg := 102) rfl rfl rfl (by decide) (by decide) (fun h28 => ?_) (fun h28 => ?_)
                · have _q := h28
                  exact absurd h28 (by omega)
                · have _q := h28
                  refine jx_ld (pc_q := 96) (l_q := L20) (st_q := [.ref 66]) rfl (jl_aloadn gL20_0) ?_
                  refine jx_vr (pc_q := 99) (as := []) (st := []) rfl rfl rfl rfl ⟨rfl, rfl, Nat.le_of_ble_eq_true rfl⟩ rfl rfl (c_nameToken (dd := d) (hd := by omega) (hW := hW11)  (ln := ln) (e_ln := show (uG Gx 12 ((at1 - A 2 (ln).toNat))) 9 = ln from ((hFx.1 9 rfl).trans (e_ln))) (le := le) (e_le := show Ax 4 (ln).toNat = le from (congrFun (hFx.2 4 rfl) _).trans (e_le)) (at0 := at1) (e_at0 := show (uG Gx 12 ((at1 - A 2 (ln).toNat))) 10 = at1 from (ex_at1)) (tx := A 0 (at1).toNat) (e_tx := show Ax 0 (at1).toNat = A 0 (at1).toNat from (congrFun (hFx.2 0 rfl) _))    (p_0 := by omega) (p_1 := by omega)) (fun o V_q hq => ?_)
                  obtain ⟨G29, A30, at2_31, tk2_32, rfl, rfl, hW33, hF34, e35, e36, p37, p38, p39, -⟩ := hq
                  have hF41 := Fr_tr hF12 hF34 (Fr_sub (by decide)) (Fr_sub (by decide))
                  have bat2_31 : (0 : Int) ≤ at2_31 ∧ at2_31 ≤ 3002 := e35 ▸ hW33.1 10
                  have ztk2_32 := tz_b tk2_32
                  have btk2_32 : (0 : Int) ≤ tk2_32 ∧ tk2_32 ≤ 5 := e36 ▸ hW33.1 11
                  refine .inl ⟨rfl, ?_⟩
                  refine jx_go (tg := 135) rfl rfl ?_
                  refine jx_rt (v := none) rfl rfl rfl rfl rfl rfl ?_
                  have z42 := tz_f (tk2_32)
                  exact ⟨_, _, at2_31, tk2_32, rfl, rfl, hW33, hF41, (e35), (e36), by omega, by omega, by omega, trivial⟩
              · have _q : True := trivial
                refine jx_if_eq (pc_q := 95) (tg := 102) rfl rfl rfl (by decide) (by decide) (fun h43 => ?_) (fun h43 => ?_)
                · have _q := h43
                  refine jx_ld (pc_q := 103) (l_q := L20) (st_q := [.int (i32 (r13))]) rfl (jl_iloadn gL20_1) ?_
                  refine jx_st (pc_q := 106) (as := [.int (i32 (r13))]) (st := []) rfl rfl ⟨rfl, Nat.le_of_ble_eq_true rfl⟩ rfl rfl rfl (c_isBig (dd := d) (hd := by omega) (v := r13)   (h_v := ⟨(Int.le_trans (by decide : (-2147483648 : Int) ≤ -2147483648) b14.1), (Int.le_trans b14.2 (by decide : (2147483647 : Int) ≤ 2147483647))⟩)  ) (fun o V_q hq => ?_)
                  obtain ⟨r44, rfl, rfl, b45, q46⟩ := hq
                  refine .inr ⟨_, rfl, ?_⟩
                  rcases q46 with ⟨rfl, a47, a48⟩ | ⟨rfl, a49⟩
                  · have _q : True := trivial
                    refine jx_if_eq (pc_q := 109) (tg := 116) rfl rfl rfl (by decide) (by decide) (fun h50 => ?_) (fun h50 => ?_)
                    · have _q := h50
                      exact absurd h50 (by omega)
                    · have _q := h50
                      refine jx_ld (pc_q := 110) (l_q := L20) (st_q := [.ref 66]) rfl (jl_aloadn gL20_0) ?_
                      refine jx_vr (pc_q := 113) (as := []) (st := []) rfl rfl rfl rfl ⟨rfl, rfl, Nat.le_of_ble_eq_true rfl⟩ rfl rfl (c_keyToken (dd := d) (hd := by omega) (hW := hW11)  (ln := ln) (e_ln := show (uG Gx 12 ((at1 - A 2 (ln).toNat))) 9 = ln from ((hFx.1 9 rfl).trans (e_ln))) (le := le) (e_le := show Ax 4 (ln).toNat = le from (congrFun (hFx.2 4 rfl) _).trans (e_le)) (at0 := at1) (e_at0 := show (uG Gx 12 ((at1 - A 2 (ln).toNat))) 10 = at1 from (ex_at1)) (tx := A 0 (at1).toNat) (e_tx := show Ax 0 (at1).toNat = A 0 (at1).toNat from (congrFun (hFx.2 0 rfl) _))    (p_0 := by omega) (p_1 := by omega)) (fun o V_q hq => ?_)
                      obtain ⟨G51, A52, at2_53, tk2_54, rfl, rfl, hW55, hF56, e57, e58, p59, p60, p61, -⟩ := hq
                      have hF63 := Fr_tr hF12 hF56 (Fr_sub (by decide)) (Fr_sub (by decide))
                      have bat2_53 : (0 : Int) ≤ at2_53 ∧ at2_53 ≤ 3002 := e57 ▸ hW55.1 10
                      have ztk2_54 := tz_b tk2_54
                      have btk2_54 : (0 : Int) ≤ tk2_54 ∧ tk2_54 ≤ 5 := e58 ▸ hW55.1 11
                      refine .inl ⟨rfl, ?_⟩
                      refine jx_go (tg := 135) rfl rfl ?_
                      refine jx_rt (v := none) rfl rfl rfl rfl rfl rfl ?_
                      have z64 := tz_f (tk2_54)
                      exact ⟨_, _, at2_53, tk2_54, rfl, rfl, hW55, hF63, (e57), (e58), by omega, by omega, by omega, trivial⟩
                  · have _q : True := trivial
                    refine jx_if_eq (pc_q := 109) (tg := 116) rfl rfl rfl (by decide) (by decide) (fun h65 => ?_) (fun h65 => ?_)
                    · have _q := h65
                      refine jx_ld (pc_q := 117) (l_q := L20) (st_q := [.int (i32 (r13))]) rfl (jl_iloadn gL20_1) ?_
                      refine jx_st (pc_q := 120) (as := [.int (i32 (r13))]) (st := []) rfl rfl ⟨rfl, Nat.le_of_ble_eq_true rfl⟩ rfl rfl rfl (c_isDigit (dd := d) (hd := by omega) (v := r13)   (h_v := ⟨(Int.le_trans (by decide : (-2147483648 : Int) ≤ -2147483648) b14.1), (Int.le_trans b14.2 (by decide : (2147483647 : Int) ≤ 2147483647))⟩)  ) (fun o V_q hq => ?_)
                      obtain ⟨r66, rfl, rfl, b67, q68⟩ := hq
                      refine .inr ⟨_, rfl, ?_⟩
                      rcases q68 with ⟨rfl, a69, a70⟩ | ⟨rfl, a71⟩
                      · have _q : True := trivial
                        refine jx_if_eq (pc_q := 123) (tg := 130) rfl rfl rfl (by decide) (by decide) (fun h72 => ?_) (fun h72 => ?_)
                        · have _q := h72
                          exact absurd h72 (by omega)
                        · have _q := h72
                          refine jx_ld (pc_q := 124) (l_q := L20) (st_q := [.ref 66]) rfl (jl_aloadn gL20_0) ?_
                          refine jx_vr (pc_q := 127) (as := []) (st := []) rfl rfl rfl rfl ⟨rfl, rfl, Nat.le_of_ble_eq_true rfl⟩ rfl rfl (c_numberToken (dd := d) (hd := by omega) (hW := hW11)  (ln := ln) (e_ln := show (uG Gx 12 ((at1 - A 2 (ln).toNat))) 9 = ln from ((hFx.1 9 rfl).trans (e_ln))) (le := le) (e_le := show Ax 4 (ln).toNat = le from (congrFun (hFx.2 4 rfl) _).trans (e_le)) (at0 := at1) (e_at0 := show (uG Gx 12 ((at1 - A 2 (ln).toNat))) 10 = at1 from (ex_at1)) (tx := A 0 (at1).toNat) (e_tx := show Ax 0 (at1).toNat = A 0 (at1).toNat from (congrFun (hFx.2 0 rfl) _))    (p_0 := by omega) (p_1 := by omega)) (fun o V_q hq => ?_)
                          obtain ⟨G73, A74, at2_75, tk2_76, rfl, rfl, hW77, hF78, e79, e80, p81, p82, p83, -⟩ := hq
                          have hF85 := Fr_tr hF12 hF78 (Fr_sub (by decide)) (Fr_sub (by decide))
                          have bat2_75 : (0 : Int) ≤ at2_75 ∧ at2_75 ≤ 3002 := e79 ▸ hW77.1 10
                          have ztk2_76 := tz_b tk2_76
                          have btk2_76 : (0 : Int) ≤ tk2_76 ∧ tk2_76 ≤ 5 := e80 ▸ hW77.1 11
                          refine .inl ⟨rfl, ?_⟩
                          refine jx_go (tg := 135) rfl rfl ?_
                          refine jx_rt (v := none) rfl rfl rfl rfl rfl rfl ?_
                          have z86 := tz_f (tk2_76)
                          exact ⟨_, _, at2_75, tk2_76, rfl, rfl, hW77, hF85, (e79), (e80), by omega, by omega, by omega, trivial⟩
                      · have _q : True := trivial
                        refine jx_if_eq (pc_q := 123) (tg := 130) rfl rfl rfl (by decide) (by decide) (fun h87 => ?_) (fun h87 => ?_)
                        · have _q := h87
                          refine jx_ld (pc_q := 131) (l_q := L20) (st_q := [.ref 66]) rfl (jl_aloadn gL20_0) ?_
                          refine jx_ld (pc_q := 132) (l_q := L20) (st_q := [.int (i32 (r13)), .ref 66]) rfl (jl_iloadn gL20_1) ?_
                          refine jx_vr (pc_q := 135) (as := [.int (i32 (r13))]) (st := []) rfl rfl rfl rfl ⟨rfl, rfl, Nat.le_of_ble_eq_true rfl⟩ rfl rfl (c_signToken (dd := d) (hd := by omega) (hW := hW11) (c := r13) (ln := ln) (e_ln := show (uG Gx 12 ((at1 - A 2 (ln).toNat))) 9 = ln from ((hFx.1 9 rfl).trans (e_ln))) (le := le) (e_le := show Ax 4 (ln).toNat = le from (congrFun (hFx.2 4 rfl) _).trans (e_le)) (at0 := at1) (e_at0 := show (uG Gx 12 ((at1 - A 2 (ln).toNat))) 10 = at1 from (ex_at1))  (h_c := ⟨(Int.le_trans (by decide : (-2147483648 : Int) ≤ -2147483648) b14.1), (Int.le_trans b14.2 (by decide : (2147483647 : Int) ≤ 2147483647))⟩)  (p_0 := by omega) (p_1 := by omega)) (fun o V_q hq => ?_)
                          obtain ⟨G88, A89, at2_90, tk2_91, rfl, rfl, hW92, hF93, e94, e95, p96, p97, p98, -⟩ := hq
                          have hF100 := Fr_tr hF12 hF93 (Fr_sub (by decide)) (Fr_sub (by decide))
                          have bat2_90 : (0 : Int) ≤ at2_90 ∧ at2_90 ≤ 3002 := e94 ▸ hW92.1 10
                          have ztk2_91 := tz_b tk2_91
                          have btk2_91 : (0 : Int) ≤ tk2_91 ∧ tk2_91 ≤ 5 := e95 ▸ hW92.1 11
                          refine .inl ⟨rfl, ?_⟩
                          refine jx_rt (v := none) rfl rfl rfl rfl rfl rfl ?_
                          have z101 := tz_f (tk2_91)
                          exact ⟨_, _, at2_90, tk2_91, rfl, rfl, hW92, hF100, (e94), (e95), by omega, by omega, by omega, trivial⟩
                        · have _q := h87
                          exact absurd h87 (by omega)
                    · have _q := h65
                      exact absurd h65 (by omega)
                · have _q := h43
                  exact absurd h43 (by omega)
            · have _q := h21
              refine jx_ld (pc_q := 58) (l_q := L20) (st_q := [.ref 66]) rfl (jl_aloadn gL20_0) ?_
              refine jx_ar (pc_q := 59) (st_q := [.int (i32 (0)), .ref 66]) rfl rfl rfl rfl ?_
              refine jr_put (pc_q := 62) (i := 11) (z := 0) rfl rfl (by decide) rfl rfl rfl rfl rfl rfl ?_
              have hW102 : Wk (uG (uG Gx 12 ((at1 - A 2 (ln).toNat))) 11 (0)) Ax := Wk_g hW11 (show (0 : Int) ≤ 0 by omega) (show 0 ≤ (5 : Int) by omega)
              have hF103 := Fr_g (z := 0) (i := 11) hF12 (by decide)
              refine jx_ld (pc_q := 63) (l_q := L20) (st_q := [.ref 66]) rfl (jl_aloadn gL20_0) ?_
              refine jx_ld (pc_q := 64) (l_q := L20) (st_q := [.ref 66, .ref 66]) rfl (jl_aloadn gL20_0) ?_
              refine jr_get (pc_q := 67) (i := 7) (v := .ref 71) rfl rfl (by decide) rfl rfl ?_
              refine jx_ld (pc_q := 68) (l_q := L20) (st_q := [.ref 66, .ref 71, .ref 66]) rfl (jl_aloadn gL20_0) ?_
              refine jr_get (pc_q := 71) (i := 9) (v := .int (i32 (ln))) rfl rfl (by decide) (rFv_eq (by decide) (show (uG (uG Gx 12 ((at1 - A 2 (ln).toNat))) 11 (0)) 9 = ln from ((hFx.1 9 rfl).trans (e_ln)))) rfl ?_
              refine jr_ldv (pc_q := 72) (i := 4) (m := 3001) (z := ln) (y := le) rfl (by decide) rfl (by decide) (Int.le_trans (by decide : (0 : Int) ≤ 0) b_ln.1) (Int.lt_of_le_of_lt b_ln.2 (by decide : (3000 : Int) < ((3001 : Nat) : Int))) rfl (show Ax 4 (ln).toNat = le from (congrFun (hFx.2 4 rfl) _).trans (e_le)) ?_
              refine jx_ld (pc_q := 73) (l_q := L20) (st_q := [.ref 66, .int (i32 (le)), .ref 66]) rfl (jl_aloadn gL20_0) ?_
              refine jr_get (pc_q := 76) (i := 5) (v := .ref 69) rfl rfl (by decide) rfl rfl ?_
              refine jx_ld (pc_q := 77) (l_q := L20) (st_q := [.ref 66, .ref 69, .int (i32 (le)), .ref 66]) rfl (jl_aloadn gL20_0) ?_
              refine jr_get (pc_q := 80) (i := 9) (v := .int (i32 (ln))) rfl rfl (by decide) (rFv_eq (by decide) (show (uG (uG Gx 12 ((at1 - A 2 (ln).toNat))) 11 (0)) 9 = ln from ((hFx.1 9 rfl).trans (e_ln)))) rfl ?_
              refine jr_ldv (pc_q := 81) (i := 2) (m := 3001) (z := ln) (y := A 2 (ln).toNat) rfl (by decide) rfl (by decide) (Int.le_trans (by decide : (0 : Int) ≤ 0) b_ln.1) (Int.lt_of_le_of_lt b_ln.2 (by decide : (3000 : Int) < ((3001 : Nat) : Int))) rfl (show Ax 2 (ln).toNat = A 2 (ln).toNat from (congrFun (hFx.2 2 rfl) _)) ?_
              refine jx_sub (pc_q := 82) rfl rfl ?_
              refine jr_put (pc_q := 85) (i := 12) (z := (le - A 2 (ln).toNat)) rfl rfl (by decide) rfl rfl rfl rfl rfl rfl ?_
              have hW104 : Wk (uG (uG (uG Gx 12 ((at1 - A 2 (ln).toNat))) 11 (0)) 12 ((le - A 2 (ln).toNat))) Ax := Wk_g hW102 (show (-3000 : Int) ≤ (le - A 2 (ln).toNat) by omega) (show (le - A 2 (ln).toNat) ≤ (3002 : Int) by omega)
              have hF105 := Fr_g (z := (le - A 2 (ln).toNat)) (i := 12) hF103 (by decide)
              refine jx_go (tg := 135) rfl rfl ?_
              refine jx_rt (v := none) rfl rfl rfl rfl rfl rfl ?_
              have z106 := tz_f (0)
              exact ⟨_, _, at1, 0, rfl, rfl, hW104, hF105, (ex_at1), rfl, by omega, by omega, by omega, trivial⟩
          · have _q : True := trivial
            refine jx_ld (pc_q := 53) (l_q := jSto1 L 1 (.int (i32 (r13)))) (st_q := []) rfl rfl ?_
            obtain ⟨L107, eL107⟩ : ∃ q, q = jSto1 L 1 (.int (i32 (r13))) := ⟨_, rfl⟩
            rw [← eL107]
            have gL107_0 : jGet L107 0 = some (.ref 66) := eL107 ▸ jg_ne (by decide) gL_0 rfl
            have gL107_1 : jGet L107 1 = some (.int (i32 (r13))) := eL107 ▸ jg_eq
            refine jx_ld (pc_q := 54) (l_q := L107) (st_q := [.int (i32 (r13))]) rfl (jl_iloadn gL107_1) ?_
            refine jx_if_ne (pc_q := 57) (tg := 88) rfl rfl rfl (Int.le_trans (by decide : (-2147483648 : Int) ≤ -2147483648) b14.1) (Int.le_trans b14.2 (by decide : (2147483647 : Int) ≤ 2147483647)) (fun h108 => ?_) (fun h108 => ?_)
            · have _q := h108
              refine jx_ld (pc_q := 89) (l_q := L107) (st_q := [.int (i32 (r13))]) rfl (jl_iloadn gL107_1) ?_
              refine jx_st (pc_q := 92) (as := [.int (i32 (r13))]) (st := []) rfl rfl ⟨rfl, Nat.le_of_ble_eq_true rfl⟩ rfl rfl rfl (c_isSmall (dd := d) (hd := by omega) (v := r13)   (h_v := ⟨(Int.le_trans (by decide : (-2147483648 : Int) ≤ -2147483648) b14.1), (Int.le_trans b14.2 (by decide : (2147483647 : Int) ≤ 2147483647))⟩)  ) (fun o V_q hq => ?_)
              obtain ⟨r109, rfl, rfl, b110, q111⟩ := hq
              refine .inr ⟨_, rfl, ?_⟩
              rcases q111 with ⟨rfl, a112, a113⟩ | ⟨rfl, a114⟩
              · have _q : True := trivial
                refine jx_if_eq (pc_q := 95) (tg := 102) rfl rfl rfl (by decide) (by decide) (fun h115 => ?_) (fun h115 => ?_)
                · have _q := h115
                  exact absurd h115 (by omega)
                · have _q := h115
                  refine jx_ld (pc_q := 96) (l_q := L107) (st_q := [.ref 66]) rfl (jl_aloadn gL107_0) ?_
                  refine jx_vr (pc_q := 99) (as := []) (st := []) rfl rfl rfl rfl ⟨rfl, rfl, Nat.le_of_ble_eq_true rfl⟩ rfl rfl (c_nameToken (dd := d) (hd := by omega) (hW := hW11)  (ln := ln) (e_ln := show (uG Gx 12 ((at1 - A 2 (ln).toNat))) 9 = ln from ((hFx.1 9 rfl).trans (e_ln))) (le := le) (e_le := show Ax 4 (ln).toNat = le from (congrFun (hFx.2 4 rfl) _).trans (e_le)) (at0 := at1) (e_at0 := show (uG Gx 12 ((at1 - A 2 (ln).toNat))) 10 = at1 from (ex_at1)) (tx := A 0 (at1).toNat) (e_tx := show Ax 0 (at1).toNat = A 0 (at1).toNat from (congrFun (hFx.2 0 rfl) _))    (p_0 := by omega) (p_1 := by omega)) (fun o V_q hq => ?_)
                  obtain ⟨G116, A117, at2_118, tk2_119, rfl, rfl, hW120, hF121, e122, e123, p124, p125, p126, -⟩ := hq
                  have hF128 := Fr_tr hF12 hF121 (Fr_sub (by decide)) (Fr_sub (by decide))
                  have bat2_118 : (0 : Int) ≤ at2_118 ∧ at2_118 ≤ 3002 := e122 ▸ hW120.1 10
                  have ztk2_119 := tz_b tk2_119
                  have btk2_119 : (0 : Int) ≤ tk2_119 ∧ tk2_119 ≤ 5 := e123 ▸ hW120.1 11
                  refine .inl ⟨rfl, ?_⟩
                  refine jx_go (tg := 135) rfl rfl ?_
                  refine jx_rt (v := none) rfl rfl rfl rfl rfl rfl ?_
                  have z129 := tz_f (tk2_119)
                  exact ⟨_, _, at2_118, tk2_119, rfl, rfl, hW120, hF128, (e122), (e123), by omega, by omega, by omega, trivial⟩
              · have _q : True := trivial
                refine jx_if_eq (pc_q := 95) (tg := 102) rfl rfl rfl (by decide) (by decide) (fun h130 => ?_) (fun h130 => ?_)
                · have _q := h130
                  refine jx_ld (pc_q := 103) (l_q := L107) (st_q := [.int (i32 (r13))]) rfl (jl_iloadn gL107_1) ?_
                  refine jx_st (pc_q := 106) (as := [.int (i32 (r13))]) (st := []) rfl rfl ⟨rfl, Nat.le_of_ble_eq_true rfl⟩ rfl rfl rfl (c_isBig (dd := d) (hd := by omega) (v := r13)   (h_v := ⟨(Int.le_trans (by decide : (-2147483648 : Int) ≤ -2147483648) b14.1), (Int.le_trans b14.2 (by decide : (2147483647 : Int) ≤ 2147483647))⟩)  ) (fun o V_q hq => ?_)
                  obtain ⟨r131, rfl, rfl, b132, q133⟩ := hq
                  refine .inr ⟨_, rfl, ?_⟩
                  rcases q133 with ⟨rfl, a134, a135⟩ | ⟨rfl, a136⟩
                  · have _q : True := trivial
                    refine jx_if_eq (pc_q := 109) (tg := 116) rfl rfl rfl (by decide) (by decide) (fun h137 => ?_) (fun h137 => ?_)
                    · have _q := h137
                      exact absurd h137 (by omega)
                    · have _q := h137
                      refine jx_ld (pc_q := 110) (l_q := L107) (st_q := [.ref 66]) rfl (jl_aloadn gL107_0) ?_
                      refine jx_vr (pc_q := 113) (as := []) (st := []) rfl rfl rfl rfl ⟨rfl, rfl, Nat.le_of_ble_eq_true rfl⟩ rfl rfl (c_keyToken (dd := d) (hd := by omega) (hW := hW11)  (ln := ln) (e_ln := show (uG Gx 12 ((at1 - A 2 (ln).toNat))) 9 = ln from ((hFx.1 9 rfl).trans (e_ln))) (le := le) (e_le := show Ax 4 (ln).toNat = le from (congrFun (hFx.2 4 rfl) _).trans (e_le)) (at0 := at1) (e_at0 := show (uG Gx 12 ((at1 - A 2 (ln).toNat))) 10 = at1 from (ex_at1)) (tx := A 0 (at1).toNat) (e_tx := show Ax 0 (at1).toNat = A 0 (at1).toNat from (congrFun (hFx.2 0 rfl) _))    (p_0 := by omega) (p_1 := by omega)) (fun o V_q hq => ?_)
                      obtain ⟨G138, A139, at2_140, tk2_141, rfl, rfl, hW142, hF143, e144, e145, p146, p147, p148, -⟩ := hq
                      have hF150 := Fr_tr hF12 hF143 (Fr_sub (by decide)) (Fr_sub (by decide))
                      have bat2_140 : (0 : Int) ≤ at2_140 ∧ at2_140 ≤ 3002 := e144 ▸ hW142.1 10
                      have ztk2_141 := tz_b tk2_141
                      have btk2_141 : (0 : Int) ≤ tk2_141 ∧ tk2_141 ≤ 5 := e145 ▸ hW142.1 11
                      refine .inl ⟨rfl, ?_⟩
                      refine jx_go (tg := 135) rfl rfl ?_
                      refine jx_rt (v := none) rfl rfl rfl rfl rfl rfl ?_
                      have z151 := tz_f (tk2_141)
                      exact ⟨_, _, at2_140, tk2_141, rfl, rfl, hW142, hF150, (e144), (e145), by omega, by omega, by omega, trivial⟩
                  · have _q : True := trivial
                    refine jx_if_eq (pc_q := 109) (tg := 116) rfl rfl rfl (by decide) (by decide) (fun h152 => ?_) (fun h152 => ?_)
                    · have _q := h152
                      refine jx_ld (pc_q := 117) (l_q := L107) (st_q := [.int (i32 (r13))]) rfl (jl_iloadn gL107_1) ?_
                      refine jx_st (pc_q := 120) (as := [.int (i32 (r13))]) (st := []) rfl rfl ⟨rfl, Nat.le_of_ble_eq_true rfl⟩ rfl rfl rfl (c_isDigit (dd := d) (hd := by omega) (v := r13)   (h_v := ⟨(Int.le_trans (by decide : (-2147483648 : Int) ≤ -2147483648) b14.1), (Int.le_trans b14.2 (by decide : (2147483647 : Int) ≤ 2147483647))⟩)  ) (fun o V_q hq => ?_)
                      obtain ⟨r153, rfl, rfl, b154, q155⟩ := hq
                      refine .inr ⟨_, rfl, ?_⟩
                      rcases q155 with ⟨rfl, a156, a157⟩ | ⟨rfl, a158⟩
                      · have _q : True := trivial
                        refine jx_if_eq (pc_q := 123) (tg := 130) rfl rfl rfl (by decide) (by decide) (fun h159 => ?_) (fun h159 => ?_)
                        · have _q := h159
                          exact absurd h159 (by omega)
                        · have _q := h159
                          refine jx_ld (pc_q := 124) (l_q := L107) (st_q := [.ref 66]) rfl (jl_aloadn gL107_0) ?_
                          refine jx_vr (pc_q := 127) (as := []) (st := []) rfl rfl rfl rfl ⟨rfl, rfl, Nat.le_of_ble_eq_true rfl⟩ rfl rfl (c_numberToken (dd := d) (hd := by omega) (hW := hW11)  (ln := ln) (e_ln := show (uG Gx 12 ((at1 - A 2 (ln).toNat))) 9 = ln from ((hFx.1 9 rfl).trans (e_ln))) (le := le) (e_le := show Ax 4 (ln).toNat = le from (congrFun (hFx.2 4 rfl) _).trans (e_le)) (at0 := at1) (e_at0 := show (uG Gx 12 ((at1 - A 2 (ln).toNat))) 10 = at1 from (ex_at1)) (tx := A 0 (at1).toNat) (e_tx := show Ax 0 (at1).toNat = A 0 (at1).toNat from (congrFun (hFx.2 0 rfl) _))    (p_0 := by omega) (p_1 := by omega)) (fun o V_q hq => ?_)
                          obtain ⟨G160, A161, at2_162, tk2_163, rfl, rfl, hW164, hF165, e166, e167, p168, p169, p170, -⟩ := hq
                          have hF172 := Fr_tr hF12 hF165 (Fr_sub (by decide)) (Fr_sub (by decide))
                          have bat2_162 : (0 : Int) ≤ at2_162 ∧ at2_162 ≤ 3002 := e166 ▸ hW164.1 10
                          have ztk2_163 := tz_b tk2_163
                          have btk2_163 : (0 : Int) ≤ tk2_163 ∧ tk2_163 ≤ 5 := e167 ▸ hW164.1 11
                          refine .inl ⟨rfl, ?_⟩
                          refine jx_go (tg := 135) rfl rfl ?_
                          refine jx_rt (v := none) rfl rfl rfl rfl rfl rfl ?_
                          have z173 := tz_f (tk2_163)
                          exact ⟨_, _, at2_162, tk2_163, rfl, rfl, hW164, hF172, (e166), (e167), by omega, by omega, by omega, trivial⟩
                      · have _q : True := trivial
                        refine jx_if_eq (pc_q := 123) (tg := 130) rfl rfl rfl (by decide) (by decide) (fun h174 => ?_) (fun h174 => ?_)
                        · have _q := h174
                          refine jx_ld (pc_q := 131) (l_q := L107) (st_q := [.ref 66]) rfl (jl_aloadn gL107_0) ?_
                          refine jx_ld (pc_q := 132) (l_q := L107) (st_q := [.int (i32 (r13)), .ref 66]) rfl (jl_iloadn gL107_1) ?_
                          refine jx_vr (pc_q := 135) (as := [.int (i32 (r13))]) (st := []) rfl rfl rfl rfl ⟨rfl, rfl, Nat.le_of_ble_eq_true rfl⟩ rfl rfl (c_signToken (dd := d) (hd := by omega) (hW := hW11) (c := r13) (ln := ln) (e_ln := show (uG Gx 12 ((at1 - A 2 (ln).toNat))) 9 = ln from ((hFx.1 9 rfl).trans (e_ln))) (le := le) (e_le := show Ax 4 (ln).toNat = le from (congrFun (hFx.2 4 rfl) _).trans (e_le)) (at0 := at1) (e_at0 := show (uG Gx 12 ((at1 - A 2 (ln).toNat))) 10 = at1 from (ex_at1))  (h_c := ⟨(Int.le_trans (by decide : (-2147483648 : Int) ≤ -2147483648) b14.1), (Int.le_trans b14.2 (by decide : (2147483647 : Int) ≤ 2147483647))⟩)  (p_0 := by omega) (p_1 := by omega)) (fun o V_q hq => ?_)
                          obtain ⟨G175, A176, at2_177, tk2_178, rfl, rfl, hW179, hF180, e181, e182, p183, p184, p185, -⟩ := hq
                          have hF187 := Fr_tr hF12 hF180 (Fr_sub (by decide)) (Fr_sub (by decide))
                          have bat2_177 : (0 : Int) ≤ at2_177 ∧ at2_177 ≤ 3002 := e181 ▸ hW179.1 10
                          have ztk2_178 := tz_b tk2_178
                          have btk2_178 : (0 : Int) ≤ tk2_178 ∧ tk2_178 ≤ 5 := e182 ▸ hW179.1 11
                          refine .inl ⟨rfl, ?_⟩
                          refine jx_rt (v := none) rfl rfl rfl rfl rfl rfl ?_
                          have z188 := tz_f (tk2_178)
                          exact ⟨_, _, at2_177, tk2_178, rfl, rfl, hW179, hF187, (e181), (e182), by omega, by omega, by omega, trivial⟩
                        · have _q := h174
                          exact absurd h174 (by omega)
                    · have _q := h152
                      exact absurd h152 (by omega)
                · have _q := h130
                  exact absurd h130 (by omega)
            · have _q := h108
              refine jx_ld (pc_q := 58) (l_q := L107) (st_q := [.ref 66]) rfl (jl_aloadn gL107_0) ?_
              refine jx_ar (pc_q := 59) (st_q := [.int (i32 (0)), .ref 66]) rfl rfl rfl rfl ?_
              refine jr_put (pc_q := 62) (i := 11) (z := 0) rfl rfl (by decide) rfl rfl rfl rfl rfl rfl ?_
              have hW189 : Wk (uG (uG Gx 12 ((at1 - A 2 (ln).toNat))) 11 (0)) Ax := Wk_g hW11 (show (0 : Int) ≤ 0 by omega) (show 0 ≤ (5 : Int) by omega)
              have hF190 := Fr_g (z := 0) (i := 11) hF12 (by decide)
              refine jx_ld (pc_q := 63) (l_q := L107) (st_q := [.ref 66]) rfl (jl_aloadn gL107_0) ?_
              refine jx_ld (pc_q := 64) (l_q := L107) (st_q := [.ref 66, .ref 66]) rfl (jl_aloadn gL107_0) ?_
              refine jr_get (pc_q := 67) (i := 7) (v := .ref 71) rfl rfl (by decide) rfl rfl ?_
              refine jx_ld (pc_q := 68) (l_q := L107) (st_q := [.ref 66, .ref 71, .ref 66]) rfl (jl_aloadn gL107_0) ?_
              refine jr_get (pc_q := 71) (i := 9) (v := .int (i32 (ln))) rfl rfl (by decide) (rFv_eq (by decide) (show (uG (uG Gx 12 ((at1 - A 2 (ln).toNat))) 11 (0)) 9 = ln from ((hFx.1 9 rfl).trans (e_ln)))) rfl ?_
              refine jr_ldv (pc_q := 72) (i := 4) (m := 3001) (z := ln) (y := le) rfl (by decide) rfl (by decide) (Int.le_trans (by decide : (0 : Int) ≤ 0) b_ln.1) (Int.lt_of_le_of_lt b_ln.2 (by decide : (3000 : Int) < ((3001 : Nat) : Int))) rfl (show Ax 4 (ln).toNat = le from (congrFun (hFx.2 4 rfl) _).trans (e_le)) ?_
              refine jx_ld (pc_q := 73) (l_q := L107) (st_q := [.ref 66, .int (i32 (le)), .ref 66]) rfl (jl_aloadn gL107_0) ?_
              refine jr_get (pc_q := 76) (i := 5) (v := .ref 69) rfl rfl (by decide) rfl rfl ?_
              refine jx_ld (pc_q := 77) (l_q := L107) (st_q := [.ref 66, .ref 69, .int (i32 (le)), .ref 66]) rfl (jl_aloadn gL107_0) ?_
              refine jr_get (pc_q := 80) (i := 9) (v := .int (i32 (ln))) rfl rfl (by decide) (rFv_eq (by decide) (show (uG (uG Gx 12 ((at1 - A 2 (ln).toNat))) 11 (0)) 9 = ln from ((hFx.1 9 rfl).trans (e_ln)))) rfl ?_
              refine jr_ldv (pc_q := 81) (i := 2) (m := 3001) (z := ln) (y := A 2 (ln).toNat) rfl (by decide) rfl (by decide) (Int.le_trans (by decide : (0 : Int) ≤ 0) b_ln.1) (Int.lt_of_le_of_lt b_ln.2 (by decide : (3000 : Int) < ((3001 : Nat) : Int))) rfl (show Ax 2 (ln).toNat = A 2 (ln).toNat from (congrFun (hFx.2 2 rfl) _)) ?_
              refine jx_sub (pc_q := 82) rfl rfl ?_
              refine jr_put (pc_q := 85) (i := 12) (z := (le - A 2 (ln).toNat)) rfl rfl (by decide) rfl rfl rfl rfl rfl rfl ?_
              have hW191 : Wk (uG (uG (uG Gx 12 ((at1 - A 2 (ln).toNat))) 11 (0)) 12 ((le - A 2 (ln).toNat))) Ax := Wk_g hW189 (show (-3000 : Int) ≤ (le - A 2 (ln).toNat) by omega) (show (le - A 2 (ln).toNat) ≤ (3002 : Int) by omega)
              have hF192 := Fr_g (z := (le - A 2 (ln).toNat)) (i := 12) hF190 (by decide)
              refine jx_go (tg := 135) rfl rfl ?_
              refine jx_rt (v := none) rfl rfl rfl rfl rfl rfl ?_
              have z193 := tz_f (0)
              exact ⟨_, _, at1, 0, rfl, rfl, hW191, hF192, (ex_at1), rfl, by omega, by omega, by omega, trivial⟩
        · have _q := h9
          refine jx_ld (pc_q := 14) (l_q := L) (st_q := [.ref 66]) rfl (jl_aloadn gL_0) ?_
          refine jx_ar (pc_q := 15) (st_q := [.ref 66, .ref 66]) rfl rfl rfl rfl ?_
          refine jr_get (pc_q := 18) (i := 10) (v := .int (i32 (at1))) rfl rfl (by decide) (rFv_eq (by decide) (show Gx 10 = at1 from (ex_at1))) rfl ?_
          refine jx_ar (pc_q := 19) (st_q := [.int (i32 (1)), .int (i32 (at1)), .ref 66]) rfl rfl rfl rfl ?_
          refine jx_add (pc_q := 20) rfl rfl ?_
          refine jr_put (pc_q := 23) (i := 10) (z := (at1 + 1)) rfl rfl (by decide) rfl rfl rfl rfl rfl rfl ?_
          have hW194 : Wk (uG Gx 10 ((at1 + 1))) Ax := Wk_g hWx (show (0 : Int) ≤ (at1 + 1) by omega) (show (at1 + 1) ≤ (3002 : Int) by omega)
          have hF195 := Fr_g (z := (at1 + 1)) (i := 10) hFx (by decide)
          refine jx_go (tg := 0) rfl rfl ?_
          exact ih0 _ (by omega) L (uG Gx 10 ((at1 + 1))) Ax ((at1 + 1)) rfl gL_0 hW194 hF195 (rfl) (by omega) (by omega)
      · have _q : True := trivial
        refine jx_ar (pc_q := 10) (st_q := [.int (i32 (32)), .int (i32 (r2))]) rfl rfl rfl rfl ?_
        refine jx_icmp_ne (pc_q := 13) (tg := 26) rfl rfl rfl (Int.le_trans (by decide : (-2147483648 : Int) ≤ -2147483648) b3.1) (Int.le_trans b3.2 (by decide : (2147483647 : Int) ≤ 2147483647)) (by decide) (by decide) (fun h196 => ?_) (fun h196 => ?_)
        · have _q := h196
          refine jx_ld (pc_q := 27) (l_q := L) (st_q := [.ref 66]) rfl (jl_aloadn gL_0) ?_
          refine jx_ld (pc_q := 28) (l_q := L) (st_q := [.ref 66, .ref 66]) rfl (jl_aloadn gL_0) ?_
          refine jr_get (pc_q := 31) (i := 10) (v := .int (i32 (at1))) rfl rfl (by decide) (rFv_eq (by decide) (show Gx 10 = at1 from (ex_at1))) rfl ?_
          refine jx_ld (pc_q := 32) (l_q := L) (st_q := [.ref 66, .int (i32 (at1)), .ref 66]) rfl (jl_aloadn gL_0) ?_
          refine jr_get (pc_q := 35) (i := 5) (v := .ref 69) rfl rfl (by decide) rfl rfl ?_
          refine jx_ld (pc_q := 36) (l_q := L) (st_q := [.ref 66, .ref 69, .int (i32 (at1)), .ref 66]) rfl (jl_aloadn gL_0) ?_
          refine jr_get (pc_q := 39) (i := 9) (v := .int (i32 (ln))) rfl rfl (by decide) (rFv_eq (by decide) (show Gx 9 = ln from ((hFx.1 9 rfl).trans (e_ln)))) rfl ?_
          have b197 : (0 : Int) ≤ A 2 (ln).toNat ∧ A 2 (ln).toNat ≤ 3000 := hW.2 2 _
          refine jr_ldv (pc_q := 40) (i := 2) (m := 3001) (z := ln) (y := A 2 (ln).toNat) rfl (by decide) rfl (by decide) (Int.le_trans (by decide : (0 : Int) ≤ 0) b_ln.1) (Int.lt_of_le_of_lt b_ln.2 (by decide : (3000 : Int) < ((3001 : Nat) : Int))) rfl (show Ax 2 (ln).toNat = A 2 (ln).toNat from (congrFun (hFx.2 2 rfl) _)) ?_
          refine jx_sub (pc_q := 41) rfl rfl ?_
          refine jr_put (pc_q := 44) (i := 12) (z := (at1 - A 2 (ln).toNat)) rfl rfl (by decide) rfl rfl rfl rfl rfl rfl ?_
          have hW198 : Wk (uG Gx 12 ((at1 - A 2 (ln).toNat))) Ax := Wk_g hWx (show (-3000 : Int) ≤ (at1 - A 2 (ln).toNat) by omega) (show (at1 - A 2 (ln).toNat) ≤ (3002 : Int) by omega)
          have hF199 := Fr_g (z := (at1 - A 2 (ln).toNat)) (i := 12) hFx (by decide)
          refine jx_ld (pc_q := 45) (l_q := L) (st_q := [.ref 66]) rfl (jl_aloadn gL_0) ?_
          refine jx_ld (pc_q := 46) (l_q := L) (st_q := [.ref 66, .ref 66]) rfl (jl_aloadn gL_0) ?_
          refine jr_get (pc_q := 49) (i := 10) (v := .int (i32 (at1))) rfl rfl (by decide) (rFv_eq (by decide) (show (uG Gx 12 ((at1 - A 2 (ln).toNat))) 10 = at1 from (ex_at1))) rfl ?_
          refine jx_vr (pc_q := 52) (as := [.int (i32 (at1))]) (st := []) rfl rfl rfl rfl ⟨rfl, rfl, Nat.le_of_ble_eq_true rfl⟩ rfl rfl (c_sign (dd := d) (hd := by omega) (hW := hW198) (k := at1) (ln := ln) (e_ln := show (uG Gx 12 ((at1 - A 2 (ln).toNat))) 9 = ln from ((hFx.1 9 rfl).trans (e_ln))) (le := le) (e_le := show Ax 4 (ln).toNat = le from (congrFun (hFx.2 4 rfl) _).trans (e_le)) (tx := A 0 (at1).toNat) (e_tx := show Ax 0 (at1).toNat = A 0 (at1).toNat from (congrFun (hFx.2 0 rfl) _))  (h_k := ⟨(Int.le_trans (by decide : (-2147483648 : Int) ≤ 0) b_at1.1), (Int.le_trans b_at1.2 (by decide : (3002 : Int) ≤ 2147483647))⟩)  (p_0 := by omega)) (fun o V_q hq => ?_)
          obtain ⟨r200, rfl, rfl, b201, q202⟩ := hq
          refine .inr ⟨_, rfl, ?_⟩
          rcases q202 with ⟨a203, a204⟩ | ⟨a205, a206⟩
          · have _q : True := trivial
            refine jx_ld (pc_q := 53) (l_q := jSto1 L 1 (.int (i32 (r200)))) (st_q := []) rfl rfl ?_
            obtain ⟨L207, eL207⟩ : ∃ q, q = jSto1 L 1 (.int (i32 (r200))) := ⟨_, rfl⟩
            rw [← eL207]
            have gL207_0 : jGet L207 0 = some (.ref 66) := eL207 ▸ jg_ne (by decide) gL_0 rfl
            have gL207_1 : jGet L207 1 = some (.int (i32 (r200))) := eL207 ▸ jg_eq
            refine jx_ld (pc_q := 54) (l_q := L207) (st_q := [.int (i32 (r200))]) rfl (jl_iloadn gL207_1) ?_
            refine jx_if_ne (pc_q := 57) (tg := 88) rfl rfl rfl (Int.le_trans (by decide : (-2147483648 : Int) ≤ -2147483648) b201.1) (Int.le_trans b201.2 (by decide : (2147483647 : Int) ≤ 2147483647)) (fun h208 => ?_) (fun h208 => ?_)
            · have _q := h208
              refine jx_ld (pc_q := 89) (l_q := L207) (st_q := [.int (i32 (r200))]) rfl (jl_iloadn gL207_1) ?_
              refine jx_st (pc_q := 92) (as := [.int (i32 (r200))]) (st := []) rfl rfl ⟨rfl, Nat.le_of_ble_eq_true rfl⟩ rfl rfl rfl (c_isSmall (dd := d) (hd := by omega) (v := r200)   (h_v := ⟨(Int.le_trans (by decide : (-2147483648 : Int) ≤ -2147483648) b201.1), (Int.le_trans b201.2 (by decide : (2147483647 : Int) ≤ 2147483647))⟩)  ) (fun o V_q hq => ?_)
              obtain ⟨r209, rfl, rfl, b210, q211⟩ := hq
              refine .inr ⟨_, rfl, ?_⟩
              rcases q211 with ⟨rfl, a212, a213⟩ | ⟨rfl, a214⟩
              · have _q : True := trivial
                refine jx_if_eq (pc_q := 95) (tg := 102) rfl rfl rfl (by decide) (by decide) (fun h215 => ?_) (fun h215 => ?_)
                · have _q := h215
                  exact absurd h215 (by omega)
                · have _q := h215
                  refine jx_ld (pc_q := 96) (l_q := L207) (st_q := [.ref 66]) rfl (jl_aloadn gL207_0) ?_
                  refine jx_vr (pc_q := 99) (as := []) (st := []) rfl rfl rfl rfl ⟨rfl, rfl, Nat.le_of_ble_eq_true rfl⟩ rfl rfl (c_nameToken (dd := d) (hd := by omega) (hW := hW198)  (ln := ln) (e_ln := show (uG Gx 12 ((at1 - A 2 (ln).toNat))) 9 = ln from ((hFx.1 9 rfl).trans (e_ln))) (le := le) (e_le := show Ax 4 (ln).toNat = le from (congrFun (hFx.2 4 rfl) _).trans (e_le)) (at0 := at1) (e_at0 := show (uG Gx 12 ((at1 - A 2 (ln).toNat))) 10 = at1 from (ex_at1)) (tx := A 0 (at1).toNat) (e_tx := show Ax 0 (at1).toNat = A 0 (at1).toNat from (congrFun (hFx.2 0 rfl) _))    (p_0 := by omega) (p_1 := by omega)) (fun o V_q hq => ?_)
                  obtain ⟨G216, A217, at2_218, tk2_219, rfl, rfl, hW220, hF221, e222, e223, p224, p225, p226, -⟩ := hq
                  have hF228 := Fr_tr hF199 hF221 (Fr_sub (by decide)) (Fr_sub (by decide))
                  have bat2_218 : (0 : Int) ≤ at2_218 ∧ at2_218 ≤ 3002 := e222 ▸ hW220.1 10
                  have ztk2_219 := tz_b tk2_219
                  have btk2_219 : (0 : Int) ≤ tk2_219 ∧ tk2_219 ≤ 5 := e223 ▸ hW220.1 11
                  refine .inl ⟨rfl, ?_⟩
                  refine jx_go (tg := 135) rfl rfl ?_
                  refine jx_rt (v := none) rfl rfl rfl rfl rfl rfl ?_
                  have z229 := tz_f (tk2_219)
                  exact ⟨_, _, at2_218, tk2_219, rfl, rfl, hW220, hF228, (e222), (e223), by omega, by omega, by omega, trivial⟩
              · have _q : True := trivial
                refine jx_if_eq (pc_q := 95) (tg := 102) rfl rfl rfl (by decide) (by decide) (fun h230 => ?_) (fun h230 => ?_)
                · have _q := h230
                  refine jx_ld (pc_q := 103) (l_q := L207) (st_q := [.int (i32 (r200))]) rfl (jl_iloadn gL207_1) ?_
                  refine jx_st (pc_q := 106) (as := [.int (i32 (r200))]) (st := []) rfl rfl ⟨rfl, Nat.le_of_ble_eq_true rfl⟩ rfl rfl rfl (c_isBig (dd := d) (hd := by omega) (v := r200)   (h_v := ⟨(Int.le_trans (by decide : (-2147483648 : Int) ≤ -2147483648) b201.1), (Int.le_trans b201.2 (by decide : (2147483647 : Int) ≤ 2147483647))⟩)  ) (fun o V_q hq => ?_)
                  obtain ⟨r231, rfl, rfl, b232, q233⟩ := hq
                  refine .inr ⟨_, rfl, ?_⟩
                  rcases q233 with ⟨rfl, a234, a235⟩ | ⟨rfl, a236⟩
                  · have _q : True := trivial
                    refine jx_if_eq (pc_q := 109) (tg := 116) rfl rfl rfl (by decide) (by decide) (fun h237 => ?_) (fun h237 => ?_)
                    · have _q := h237
                      exact absurd h237 (by omega)
                    · have _q := h237
                      refine jx_ld (pc_q := 110) (l_q := L207) (st_q := [.ref 66]) rfl (jl_aloadn gL207_0) ?_
                      refine jx_vr (pc_q := 113) (as := []) (st := []) rfl rfl rfl rfl ⟨rfl, rfl, Nat.le_of_ble_eq_true rfl⟩ rfl rfl (c_keyToken (dd := d) (hd := by omega) (hW := hW198)  (ln := ln) (e_ln := show (uG Gx 12 ((at1 - A 2 (ln).toNat))) 9 = ln from ((hFx.1 9 rfl).trans (e_ln))) (le := le) (e_le := show Ax 4 (ln).toNat = le from (congrFun (hFx.2 4 rfl) _).trans (e_le)) (at0 := at1) (e_at0 := show (uG Gx 12 ((at1 - A 2 (ln).toNat))) 10 = at1 from (ex_at1)) (tx := A 0 (at1).toNat) (e_tx := show Ax 0 (at1).toNat = A 0 (at1).toNat from (congrFun (hFx.2 0 rfl) _))    (p_0 := by omega) (p_1 := by omega)) (fun o V_q hq => ?_)
                      obtain ⟨G238, A239, at2_240, tk2_241, rfl, rfl, hW242, hF243, e244, e245, p246, p247, p248, -⟩ := hq
                      have hF250 := Fr_tr hF199 hF243 (Fr_sub (by decide)) (Fr_sub (by decide))
                      have bat2_240 : (0 : Int) ≤ at2_240 ∧ at2_240 ≤ 3002 := e244 ▸ hW242.1 10
                      have ztk2_241 := tz_b tk2_241
                      have btk2_241 : (0 : Int) ≤ tk2_241 ∧ tk2_241 ≤ 5 := e245 ▸ hW242.1 11
                      refine .inl ⟨rfl, ?_⟩
                      refine jx_go (tg := 135) rfl rfl ?_
                      refine jx_rt (v := none) rfl rfl rfl rfl rfl rfl ?_
                      have z251 := tz_f (tk2_241)
                      exact ⟨_, _, at2_240, tk2_241, rfl, rfl, hW242, hF250, (e244), (e245), by omega, by omega, by omega, trivial⟩
                  · have _q : True := trivial
                    refine jx_if_eq (pc_q := 109) (tg := 116) rfl rfl rfl (by decide) (by decide) (fun h252 => ?_) (fun h252 => ?_)
                    · have _q := h252
                      refine jx_ld (pc_q := 117) (l_q := L207) (st_q := [.int (i32 (r200))]) rfl (jl_iloadn gL207_1) ?_
                      refine jx_st (pc_q := 120) (as := [.int (i32 (r200))]) (st := []) rfl rfl ⟨rfl, Nat.le_of_ble_eq_true rfl⟩ rfl rfl rfl (c_isDigit (dd := d) (hd := by omega) (v := r200)   (h_v := ⟨(Int.le_trans (by decide : (-2147483648 : Int) ≤ -2147483648) b201.1), (Int.le_trans b201.2 (by decide : (2147483647 : Int) ≤ 2147483647))⟩)  ) (fun o V_q hq => ?_)
                      obtain ⟨r253, rfl, rfl, b254, q255⟩ := hq
                      refine .inr ⟨_, rfl, ?_⟩
                      rcases q255 with ⟨rfl, a256, a257⟩ | ⟨rfl, a258⟩
                      · have _q : True := trivial
                        refine jx_if_eq (pc_q := 123) (tg := 130) rfl rfl rfl (by decide) (by decide) (fun h259 => ?_) (fun h259 => ?_)
                        · have _q := h259
                          exact absurd h259 (by omega)
                        · have _q := h259
                          refine jx_ld (pc_q := 124) (l_q := L207) (st_q := [.ref 66]) rfl (jl_aloadn gL207_0) ?_
                          refine jx_vr (pc_q := 127) (as := []) (st := []) rfl rfl rfl rfl ⟨rfl, rfl, Nat.le_of_ble_eq_true rfl⟩ rfl rfl (c_numberToken (dd := d) (hd := by omega) (hW := hW198)  (ln := ln) (e_ln := show (uG Gx 12 ((at1 - A 2 (ln).toNat))) 9 = ln from ((hFx.1 9 rfl).trans (e_ln))) (le := le) (e_le := show Ax 4 (ln).toNat = le from (congrFun (hFx.2 4 rfl) _).trans (e_le)) (at0 := at1) (e_at0 := show (uG Gx 12 ((at1 - A 2 (ln).toNat))) 10 = at1 from (ex_at1)) (tx := A 0 (at1).toNat) (e_tx := show Ax 0 (at1).toNat = A 0 (at1).toNat from (congrFun (hFx.2 0 rfl) _))    (p_0 := by omega) (p_1 := by omega)) (fun o V_q hq => ?_)
                          obtain ⟨G260, A261, at2_262, tk2_263, rfl, rfl, hW264, hF265, e266, e267, p268, p269, p270, -⟩ := hq
                          have hF272 := Fr_tr hF199 hF265 (Fr_sub (by decide)) (Fr_sub (by decide))
                          have bat2_262 : (0 : Int) ≤ at2_262 ∧ at2_262 ≤ 3002 := e266 ▸ hW264.1 10
                          have ztk2_263 := tz_b tk2_263
                          have btk2_263 : (0 : Int) ≤ tk2_263 ∧ tk2_263 ≤ 5 := e267 ▸ hW264.1 11
                          refine .inl ⟨rfl, ?_⟩
                          refine jx_go (tg := 135) rfl rfl ?_
                          refine jx_rt (v := none) rfl rfl rfl rfl rfl rfl ?_
                          have z273 := tz_f (tk2_263)
                          exact ⟨_, _, at2_262, tk2_263, rfl, rfl, hW264, hF272, (e266), (e267), by omega, by omega, by omega, trivial⟩
                      · have _q : True := trivial
                        refine jx_if_eq (pc_q := 123) (tg := 130) rfl rfl rfl (by decide) (by decide) (fun h274 => ?_) (fun h274 => ?_)
                        · have _q := h274
                          refine jx_ld (pc_q := 131) (l_q := L207) (st_q := [.ref 66]) rfl (jl_aloadn gL207_0) ?_
                          refine jx_ld (pc_q := 132) (l_q := L207) (st_q := [.int (i32 (r200)), .ref 66]) rfl (jl_iloadn gL207_1) ?_
                          refine jx_vr (pc_q := 135) (as := [.int (i32 (r200))]) (st := []) rfl rfl rfl rfl ⟨rfl, rfl, Nat.le_of_ble_eq_true rfl⟩ rfl rfl (c_signToken (dd := d) (hd := by omega) (hW := hW198) (c := r200) (ln := ln) (e_ln := show (uG Gx 12 ((at1 - A 2 (ln).toNat))) 9 = ln from ((hFx.1 9 rfl).trans (e_ln))) (le := le) (e_le := show Ax 4 (ln).toNat = le from (congrFun (hFx.2 4 rfl) _).trans (e_le)) (at0 := at1) (e_at0 := show (uG Gx 12 ((at1 - A 2 (ln).toNat))) 10 = at1 from (ex_at1))  (h_c := ⟨(Int.le_trans (by decide : (-2147483648 : Int) ≤ -2147483648) b201.1), (Int.le_trans b201.2 (by decide : (2147483647 : Int) ≤ 2147483647))⟩)  (p_0 := by omega) (p_1 := by omega)) (fun o V_q hq => ?_)
                          obtain ⟨G275, A276, at2_277, tk2_278, rfl, rfl, hW279, hF280, e281, e282, p283, p284, p285, -⟩ := hq
                          have hF287 := Fr_tr hF199 hF280 (Fr_sub (by decide)) (Fr_sub (by decide))
                          have bat2_277 : (0 : Int) ≤ at2_277 ∧ at2_277 ≤ 3002 := e281 ▸ hW279.1 10
                          have ztk2_278 := tz_b tk2_278
                          have btk2_278 : (0 : Int) ≤ tk2_278 ∧ tk2_278 ≤ 5 := e282 ▸ hW279.1 11
                          refine .inl ⟨rfl, ?_⟩
                          refine jx_rt (v := none) rfl rfl rfl rfl rfl rfl ?_
                          have z288 := tz_f (tk2_278)
                          exact ⟨_, _, at2_277, tk2_278, rfl, rfl, hW279, hF287, (e281), (e282), by omega, by omega, by omega, trivial⟩
                        · have _q := h274
                          exact absurd h274 (by omega)
                    · have _q := h252
                      exact absurd h252 (by omega)
                · have _q := h230
                  exact absurd h230 (by omega)
            · have _q := h208
              refine jx_ld (pc_q := 58) (l_q := L207) (st_q := [.ref 66]) rfl (jl_aloadn gL207_0) ?_
              refine jx_ar (pc_q := 59) (st_q := [.int (i32 (0)), .ref 66]) rfl rfl rfl rfl ?_
              refine jr_put (pc_q := 62) (i := 11) (z := 0) rfl rfl (by decide) rfl rfl rfl rfl rfl rfl ?_
              have hW289 : Wk (uG (uG Gx 12 ((at1 - A 2 (ln).toNat))) 11 (0)) Ax := Wk_g hW198 (show (0 : Int) ≤ 0 by omega) (show 0 ≤ (5 : Int) by omega)
              have hF290 := Fr_g (z := 0) (i := 11) hF199 (by decide)
              refine jx_ld (pc_q := 63) (l_q := L207) (st_q := [.ref 66]) rfl (jl_aloadn gL207_0) ?_
              refine jx_ld (pc_q := 64) (l_q := L207) (st_q := [.ref 66, .ref 66]) rfl (jl_aloadn gL207_0) ?_
              refine jr_get (pc_q := 67) (i := 7) (v := .ref 71) rfl rfl (by decide) rfl rfl ?_
              refine jx_ld (pc_q := 68) (l_q := L207) (st_q := [.ref 66, .ref 71, .ref 66]) rfl (jl_aloadn gL207_0) ?_
              refine jr_get (pc_q := 71) (i := 9) (v := .int (i32 (ln))) rfl rfl (by decide) (rFv_eq (by decide) (show (uG (uG Gx 12 ((at1 - A 2 (ln).toNat))) 11 (0)) 9 = ln from ((hFx.1 9 rfl).trans (e_ln)))) rfl ?_
              refine jr_ldv (pc_q := 72) (i := 4) (m := 3001) (z := ln) (y := le) rfl (by decide) rfl (by decide) (Int.le_trans (by decide : (0 : Int) ≤ 0) b_ln.1) (Int.lt_of_le_of_lt b_ln.2 (by decide : (3000 : Int) < ((3001 : Nat) : Int))) rfl (show Ax 4 (ln).toNat = le from (congrFun (hFx.2 4 rfl) _).trans (e_le)) ?_
              refine jx_ld (pc_q := 73) (l_q := L207) (st_q := [.ref 66, .int (i32 (le)), .ref 66]) rfl (jl_aloadn gL207_0) ?_
              refine jr_get (pc_q := 76) (i := 5) (v := .ref 69) rfl rfl (by decide) rfl rfl ?_
              refine jx_ld (pc_q := 77) (l_q := L207) (st_q := [.ref 66, .ref 69, .int (i32 (le)), .ref 66]) rfl (jl_aloadn gL207_0) ?_
              refine jr_get (pc_q := 80) (i := 9) (v := .int (i32 (ln))) rfl rfl (by decide) (rFv_eq (by decide) (show (uG (uG Gx 12 ((at1 - A 2 (ln).toNat))) 11 (0)) 9 = ln from ((hFx.1 9 rfl).trans (e_ln)))) rfl ?_
              refine jr_ldv (pc_q := 81) (i := 2) (m := 3001) (z := ln) (y := A 2 (ln).toNat) rfl (by decide) rfl (by decide) (Int.le_trans (by decide : (0 : Int) ≤ 0) b_ln.1) (Int.lt_of_le_of_lt b_ln.2 (by decide : (3000 : Int) < ((3001 : Nat) : Int))) rfl (show Ax 2 (ln).toNat = A 2 (ln).toNat from (congrFun (hFx.2 2 rfl) _)) ?_
              refine jx_sub (pc_q := 82) rfl rfl ?_
              refine jr_put (pc_q := 85) (i := 12) (z := (le - A 2 (ln).toNat)) rfl rfl (by decide) rfl rfl rfl rfl rfl rfl ?_
              have hW291 : Wk (uG (uG (uG Gx 12 ((at1 - A 2 (ln).toNat))) 11 (0)) 12 ((le - A 2 (ln).toNat))) Ax := Wk_g hW289 (show (-3000 : Int) ≤ (le - A 2 (ln).toNat) by omega) (show (le - A 2 (ln).toNat) ≤ (3002 : Int) by omega)
              have hF292 := Fr_g (z := (le - A 2 (ln).toNat)) (i := 12) hF290 (by decide)
              refine jx_go (tg := 135) rfl rfl ?_
              refine jx_rt (v := none) rfl rfl rfl rfl rfl rfl ?_
              have z293 := tz_f (0)
              exact ⟨_, _, at1, 0, rfl, rfl, hW291, hF292, (ex_at1), rfl, by omega, by omega, by omega, trivial⟩
          · have _q : True := trivial
            refine jx_ld (pc_q := 53) (l_q := jSto1 L 1 (.int (i32 (r200)))) (st_q := []) rfl rfl ?_
            obtain ⟨L294, eL294⟩ : ∃ q, q = jSto1 L 1 (.int (i32 (r200))) := ⟨_, rfl⟩
            rw [← eL294]
            have gL294_0 : jGet L294 0 = some (.ref 66) := eL294 ▸ jg_ne (by decide) gL_0 rfl
            have gL294_1 : jGet L294 1 = some (.int (i32 (r200))) := eL294 ▸ jg_eq
            refine jx_ld (pc_q := 54) (l_q := L294) (st_q := [.int (i32 (r200))]) rfl (jl_iloadn gL294_1) ?_
            refine jx_if_ne (pc_q := 57) (tg := 88) rfl rfl rfl (Int.le_trans (by decide : (-2147483648 : Int) ≤ -2147483648) b201.1) (Int.le_trans b201.2 (by decide : (2147483647 : Int) ≤ 2147483647)) (fun h295 => ?_) (fun h295 => ?_)
            · have _q := h295
              refine jx_ld (pc_q := 89) (l_q := L294) (st_q := [.int (i32 (r200))]) rfl (jl_iloadn gL294_1) ?_
              refine jx_st (pc_q := 92) (as := [.int (i32 (r200))]) (st := []) rfl rfl ⟨rfl, Nat.le_of_ble_eq_true rfl⟩ rfl rfl rfl (c_isSmall (dd := d) (hd := by omega) (v := r200)   (h_v := ⟨(Int.le_trans (by decide : (-2147483648 : Int) ≤ -2147483648) b201.1), (Int.le_trans b201.2 (by decide : (2147483647 : Int) ≤ 2147483647))⟩)  ) (fun o V_q hq => ?_)
              obtain ⟨r296, rfl, rfl, b297, q298⟩ := hq
              refine .inr ⟨_, rfl, ?_⟩
              rcases q298 with ⟨rfl, a299, a300⟩ | ⟨rfl, a301⟩
              · have _q : True := trivial
                refine jx_if_eq (pc_q := 95) (tg := 102) rfl rfl rfl (by decide) (by decide) (fun h302 => ?_) (fun h302 => ?_)
                · have _q := h302
                  exact absurd h302 (by omega)
                · have _q := h302
                  refine jx_ld (pc_q := 96) (l_q := L294) (st_q := [.ref 66]) rfl (jl_aloadn gL294_0) ?_
                  refine jx_vr (pc_q := 99) (as := []) (st := []) rfl rfl rfl rfl ⟨rfl, rfl, Nat.le_of_ble_eq_true rfl⟩ rfl rfl (c_nameToken (dd := d) (hd := by omega) (hW := hW198)  (ln := ln) (e_ln := show (uG Gx 12 ((at1 - A 2 (ln).toNat))) 9 = ln from ((hFx.1 9 rfl).trans (e_ln))) (le := le) (e_le := show Ax 4 (ln).toNat = le from (congrFun (hFx.2 4 rfl) _).trans (e_le)) (at0 := at1) (e_at0 := show (uG Gx 12 ((at1 - A 2 (ln).toNat))) 10 = at1 from (ex_at1)) (tx := A 0 (at1).toNat) (e_tx := show Ax 0 (at1).toNat = A 0 (at1).toNat from (congrFun (hFx.2 0 rfl) _))    (p_0 := by omega) (p_1 := by omega)) (fun o V_q hq => ?_)
                  obtain ⟨G303, A304, at2_305, tk2_306, rfl, rfl, hW307, hF308, e309, e310, p311, p312, p313, -⟩ := hq
                  have hF315 := Fr_tr hF199 hF308 (Fr_sub (by decide)) (Fr_sub (by decide))
                  have bat2_305 : (0 : Int) ≤ at2_305 ∧ at2_305 ≤ 3002 := e309 ▸ hW307.1 10
                  have ztk2_306 := tz_b tk2_306
                  have btk2_306 : (0 : Int) ≤ tk2_306 ∧ tk2_306 ≤ 5 := e310 ▸ hW307.1 11
                  refine .inl ⟨rfl, ?_⟩
                  refine jx_go (tg := 135) rfl rfl ?_
                  refine jx_rt (v := none) rfl rfl rfl rfl rfl rfl ?_
                  have z316 := tz_f (tk2_306)
                  exact ⟨_, _, at2_305, tk2_306, rfl, rfl, hW307, hF315, (e309), (e310), by omega, by omega, by omega, trivial⟩
              · have _q : True := trivial
                refine jx_if_eq (pc_q := 95) (tg := 102) rfl rfl rfl (by decide) (by decide) (fun h317 => ?_) (fun h317 => ?_)
                · have _q := h317
                  refine jx_ld (pc_q := 103) (l_q := L294) (st_q := [.int (i32 (r200))]) rfl (jl_iloadn gL294_1) ?_
                  refine jx_st (pc_q := 106) (as := [.int (i32 (r200))]) (st := []) rfl rfl ⟨rfl, Nat.le_of_ble_eq_true rfl⟩ rfl rfl rfl (c_isBig (dd := d) (hd := by omega) (v := r200)   (h_v := ⟨(Int.le_trans (by decide : (-2147483648 : Int) ≤ -2147483648) b201.1), (Int.le_trans b201.2 (by decide : (2147483647 : Int) ≤ 2147483647))⟩)  ) (fun o V_q hq => ?_)
                  obtain ⟨r318, rfl, rfl, b319, q320⟩ := hq
                  refine .inr ⟨_, rfl, ?_⟩
                  rcases q320 with ⟨rfl, a321, a322⟩ | ⟨rfl, a323⟩
                  · have _q : True := trivial
                    refine jx_if_eq (pc_q := 109) (tg := 116) rfl rfl rfl (by decide) (by decide) (fun h324 => ?_) (fun h324 => ?_)
                    · have _q := h324
                      exact absurd h324 (by omega)
                    · have _q := h324
                      refine jx_ld (pc_q := 110) (l_q := L294) (st_q := [.ref 66]) rfl (jl_aloadn gL294_0) ?_
                      refine jx_vr (pc_q := 113) (as := []) (st := []) rfl rfl rfl rfl ⟨rfl, rfl, Nat.le_of_ble_eq_true rfl⟩ rfl rfl (c_keyToken (dd := d) (hd := by omega) (hW := hW198)  (ln := ln) (e_ln := show (uG Gx 12 ((at1 - A 2 (ln).toNat))) 9 = ln from ((hFx.1 9 rfl).trans (e_ln))) (le := le) (e_le := show Ax 4 (ln).toNat = le from (congrFun (hFx.2 4 rfl) _).trans (e_le)) (at0 := at1) (e_at0 := show (uG Gx 12 ((at1 - A 2 (ln).toNat))) 10 = at1 from (ex_at1)) (tx := A 0 (at1).toNat) (e_tx := show Ax 0 (at1).toNat = A 0 (at1).toNat from (congrFun (hFx.2 0 rfl) _))    (p_0 := by omega) (p_1 := by omega)) (fun o V_q hq => ?_)
                      obtain ⟨G325, A326, at2_327, tk2_328, rfl, rfl, hW329, hF330, e331, e332, p333, p334, p335, -⟩ := hq
                      have hF337 := Fr_tr hF199 hF330 (Fr_sub (by decide)) (Fr_sub (by decide))
                      have bat2_327 : (0 : Int) ≤ at2_327 ∧ at2_327 ≤ 3002 := e331 ▸ hW329.1 10
                      have ztk2_328 := tz_b tk2_328
                      have btk2_328 : (0 : Int) ≤ tk2_328 ∧ tk2_328 ≤ 5 := e332 ▸ hW329.1 11
                      refine .inl ⟨rfl, ?_⟩
                      refine jx_go (tg := 135) rfl rfl ?_
                      refine jx_rt (v := none) rfl rfl rfl rfl rfl rfl ?_
                      have z338 := tz_f (tk2_328)
                      exact ⟨_, _, at2_327, tk2_328, rfl, rfl, hW329, hF337, (e331), (e332), by omega, by omega, by omega, trivial⟩
                  · have _q : True := trivial
                    refine jx_if_eq (pc_q := 109) (tg := 116) rfl rfl rfl (by decide) (by decide) (fun h339 => ?_) (fun h339 => ?_)
                    · have _q := h339
                      refine jx_ld (pc_q := 117) (l_q := L294) (st_q := [.int (i32 (r200))]) rfl (jl_iloadn gL294_1) ?_
                      refine jx_st (pc_q := 120) (as := [.int (i32 (r200))]) (st := []) rfl rfl ⟨rfl, Nat.le_of_ble_eq_true rfl⟩ rfl rfl rfl (c_isDigit (dd := d) (hd := by omega) (v := r200)   (h_v := ⟨(Int.le_trans (by decide : (-2147483648 : Int) ≤ -2147483648) b201.1), (Int.le_trans b201.2 (by decide : (2147483647 : Int) ≤ 2147483647))⟩)  ) (fun o V_q hq => ?_)
                      obtain ⟨r340, rfl, rfl, b341, q342⟩ := hq
                      refine .inr ⟨_, rfl, ?_⟩
                      rcases q342 with ⟨rfl, a343, a344⟩ | ⟨rfl, a345⟩
                      · have _q : True := trivial
                        refine jx_if_eq (pc_q := 123) (tg := 130) rfl rfl rfl (by decide) (by decide) (fun h346 => ?_) (fun h346 => ?_)
                        · have _q := h346
                          exact absurd h346 (by omega)
                        · have _q := h346
                          refine jx_ld (pc_q := 124) (l_q := L294) (st_q := [.ref 66]) rfl (jl_aloadn gL294_0) ?_
                          refine jx_vr (pc_q := 127) (as := []) (st := []) rfl rfl rfl rfl ⟨rfl, rfl, Nat.le_of_ble_eq_true rfl⟩ rfl rfl (c_numberToken (dd := d) (hd := by omega) (hW := hW198)  (ln := ln) (e_ln := show (uG Gx 12 ((at1 - A 2 (ln).toNat))) 9 = ln from ((hFx.1 9 rfl).trans (e_ln))) (le := le) (e_le := show Ax 4 (ln).toNat = le from (congrFun (hFx.2 4 rfl) _).trans (e_le)) (at0 := at1) (e_at0 := show (uG Gx 12 ((at1 - A 2 (ln).toNat))) 10 = at1 from (ex_at1)) (tx := A 0 (at1).toNat) (e_tx := show Ax 0 (at1).toNat = A 0 (at1).toNat from (congrFun (hFx.2 0 rfl) _))    (p_0 := by omega) (p_1 := by omega)) (fun o V_q hq => ?_)
                          obtain ⟨G347, A348, at2_349, tk2_350, rfl, rfl, hW351, hF352, e353, e354, p355, p356, p357, -⟩ := hq
                          have hF359 := Fr_tr hF199 hF352 (Fr_sub (by decide)) (Fr_sub (by decide))
                          have bat2_349 : (0 : Int) ≤ at2_349 ∧ at2_349 ≤ 3002 := e353 ▸ hW351.1 10
                          have ztk2_350 := tz_b tk2_350
                          have btk2_350 : (0 : Int) ≤ tk2_350 ∧ tk2_350 ≤ 5 := e354 ▸ hW351.1 11
                          refine .inl ⟨rfl, ?_⟩
                          refine jx_go (tg := 135) rfl rfl ?_
                          refine jx_rt (v := none) rfl rfl rfl rfl rfl rfl ?_
                          have z360 := tz_f (tk2_350)
                          exact ⟨_, _, at2_349, tk2_350, rfl, rfl, hW351, hF359, (e353), (e354), by omega, by omega, by omega, trivial⟩
                      · have _q : True := trivial
                        refine jx_if_eq (pc_q := 123) (tg := 130) rfl rfl rfl (by decide) (by decide) (fun h361 => ?_) (fun h361 => ?_)
                        · have _q := h361
                          refine jx_ld (pc_q := 131) (l_q := L294) (st_q := [.ref 66]) rfl (jl_aloadn gL294_0) ?_
                          refine jx_ld (pc_q := 132) (l_q := L294) (st_q := [.int (i32 (r200)), .ref 66]) rfl (jl_iloadn gL294_1) ?_
                          refine jx_vr (pc_q := 135) (as := [.int (i32 (r200))]) (st := []) rfl rfl rfl rfl ⟨rfl, rfl, Nat.le_of_ble_eq_true rfl⟩ rfl rfl (c_signToken (dd := d) (hd := by omega) (hW := hW198) (c := r200) (ln := ln) (e_ln := show (uG Gx 12 ((at1 - A 2 (ln).toNat))) 9 = ln from ((hFx.1 9 rfl).trans (e_ln))) (le := le) (e_le := show Ax 4 (ln).toNat = le from (congrFun (hFx.2 4 rfl) _).trans (e_le)) (at0 := at1) (e_at0 := show (uG Gx 12 ((at1 - A 2 (ln).toNat))) 10 = at1 from (ex_at1))  (h_c := ⟨(Int.le_trans (by decide : (-2147483648 : Int) ≤ -2147483648) b201.1), (Int.le_trans b201.2 (by decide : (2147483647 : Int) ≤ 2147483647))⟩)  (p_0 := by omega) (p_1 := by omega)) (fun o V_q hq => ?_)
                          obtain ⟨G362, A363, at2_364, tk2_365, rfl, rfl, hW366, hF367, e368, e369, p370, p371, p372, -⟩ := hq
                          have hF374 := Fr_tr hF199 hF367 (Fr_sub (by decide)) (Fr_sub (by decide))
                          have bat2_364 : (0 : Int) ≤ at2_364 ∧ at2_364 ≤ 3002 := e368 ▸ hW366.1 10
                          have ztk2_365 := tz_b tk2_365
                          have btk2_365 : (0 : Int) ≤ tk2_365 ∧ tk2_365 ≤ 5 := e369 ▸ hW366.1 11
                          refine .inl ⟨rfl, ?_⟩
                          refine jx_rt (v := none) rfl rfl rfl rfl rfl rfl ?_
                          have z375 := tz_f (tk2_365)
                          exact ⟨_, _, at2_364, tk2_365, rfl, rfl, hW366, hF374, (e368), (e369), by omega, by omega, by omega, trivial⟩
                        · have _q := h361
                          exact absurd h361 (by omega)
                    · have _q := h339
                      exact absurd h339 (by omega)
                · have _q := h317
                  exact absurd h317 (by omega)
            · have _q := h295
              refine jx_ld (pc_q := 58) (l_q := L294) (st_q := [.ref 66]) rfl (jl_aloadn gL294_0) ?_
              refine jx_ar (pc_q := 59) (st_q := [.int (i32 (0)), .ref 66]) rfl rfl rfl rfl ?_
              refine jr_put (pc_q := 62) (i := 11) (z := 0) rfl rfl (by decide) rfl rfl rfl rfl rfl rfl ?_
              have hW376 : Wk (uG (uG Gx 12 ((at1 - A 2 (ln).toNat))) 11 (0)) Ax := Wk_g hW198 (show (0 : Int) ≤ 0 by omega) (show 0 ≤ (5 : Int) by omega)
              have hF377 := Fr_g (z := 0) (i := 11) hF199 (by decide)
              refine jx_ld (pc_q := 63) (l_q := L294) (st_q := [.ref 66]) rfl (jl_aloadn gL294_0) ?_
              refine jx_ld (pc_q := 64) (l_q := L294) (st_q := [.ref 66, .ref 66]) rfl (jl_aloadn gL294_0) ?_
              refine jr_get (pc_q := 67) (i := 7) (v := .ref 71) rfl rfl (by decide) rfl rfl ?_
              refine jx_ld (pc_q := 68) (l_q := L294) (st_q := [.ref 66, .ref 71, .ref 66]) rfl (jl_aloadn gL294_0) ?_
              refine jr_get (pc_q := 71) (i := 9) (v := .int (i32 (ln))) rfl rfl (by decide) (rFv_eq (by decide) (show (uG (uG Gx 12 ((at1 - A 2 (ln).toNat))) 11 (0)) 9 = ln from ((hFx.1 9 rfl).trans (e_ln)))) rfl ?_
              refine jr_ldv (pc_q := 72) (i := 4) (m := 3001) (z := ln) (y := le) rfl (by decide) rfl (by decide) (Int.le_trans (by decide : (0 : Int) ≤ 0) b_ln.1) (Int.lt_of_le_of_lt b_ln.2 (by decide : (3000 : Int) < ((3001 : Nat) : Int))) rfl (show Ax 4 (ln).toNat = le from (congrFun (hFx.2 4 rfl) _).trans (e_le)) ?_
              refine jx_ld (pc_q := 73) (l_q := L294) (st_q := [.ref 66, .int (i32 (le)), .ref 66]) rfl (jl_aloadn gL294_0) ?_
              refine jr_get (pc_q := 76) (i := 5) (v := .ref 69) rfl rfl (by decide) rfl rfl ?_
              refine jx_ld (pc_q := 77) (l_q := L294) (st_q := [.ref 66, .ref 69, .int (i32 (le)), .ref 66]) rfl (jl_aloadn gL294_0) ?_
              refine jr_get (pc_q := 80) (i := 9) (v := .int (i32 (ln))) rfl rfl (by decide) (rFv_eq (by decide) (show (uG (uG Gx 12 ((at1 - A 2 (ln).toNat))) 11 (0)) 9 = ln from ((hFx.1 9 rfl).trans (e_ln)))) rfl ?_
              refine jr_ldv (pc_q := 81) (i := 2) (m := 3001) (z := ln) (y := A 2 (ln).toNat) rfl (by decide) rfl (by decide) (Int.le_trans (by decide : (0 : Int) ≤ 0) b_ln.1) (Int.lt_of_le_of_lt b_ln.2 (by decide : (3000 : Int) < ((3001 : Nat) : Int))) rfl (show Ax 2 (ln).toNat = A 2 (ln).toNat from (congrFun (hFx.2 2 rfl) _)) ?_
              refine jx_sub (pc_q := 82) rfl rfl ?_
              refine jr_put (pc_q := 85) (i := 12) (z := (le - A 2 (ln).toNat)) rfl rfl (by decide) rfl rfl rfl rfl rfl rfl ?_
              have hW378 : Wk (uG (uG (uG Gx 12 ((at1 - A 2 (ln).toNat))) 11 (0)) 12 ((le - A 2 (ln).toNat))) Ax := Wk_g hW376 (show (-3000 : Int) ≤ (le - A 2 (ln).toNat) by omega) (show (le - A 2 (ln).toNat) ≤ (3002 : Int) by omega)
              have hF379 := Fr_g (z := (le - A 2 (ln).toNat)) (i := 12) hF377 (by decide)
              refine jx_go (tg := 135) rfl rfl ?_
              refine jx_rt (v := none) rfl rfl rfl rfl rfl rfl ?_
              have z380 := tz_f (0)
              exact ⟨_, _, at1, 0, rfl, rfl, hW378, hF379, (ex_at1), rfl, by omega, by omega, by omega, trivial⟩
        · have _q := h196
          refine jx_ld (pc_q := 14) (l_q := L) (st_q := [.ref 66]) rfl (jl_aloadn gL_0) ?_
          refine jx_ar (pc_q := 15) (st_q := [.ref 66, .ref 66]) rfl rfl rfl rfl ?_
          refine jr_get (pc_q := 18) (i := 10) (v := .int (i32 (at1))) rfl rfl (by decide) (rFv_eq (by decide) (show Gx 10 = at1 from (ex_at1))) rfl ?_
          refine jx_ar (pc_q := 19) (st_q := [.int (i32 (1)), .int (i32 (at1)), .ref 66]) rfl rfl rfl rfl ?_
          refine jx_add (pc_q := 20) rfl rfl ?_
          refine jr_put (pc_q := 23) (i := 10) (z := (at1 + 1)) rfl rfl (by decide) rfl rfl rfl rfl rfl rfl ?_
          have hW381 : Wk (uG Gx 10 ((at1 + 1))) Ax := Wk_g hWx (show (0 : Int) ≤ (at1 + 1) by omega) (show (at1 + 1) ≤ (3002 : Int) by omega)
          have hF382 := Fr_g (z := (at1 + 1)) (i := 10) hFx (by decide)
          refine jx_go (tg := 0) rfl rfl ?_
          exact ih0 _ (by omega) L (uG Gx 10 ((at1 + 1))) Ax ((at1 + 1)) rfl gL_0 hW381 hF382 (rfl) (by omega) (by omega)
  exact at_0 _ [(0, .ref 66)] G A (at0) rfl rfl hW hF0 ((e_at0)) (by omega) (by omega)
