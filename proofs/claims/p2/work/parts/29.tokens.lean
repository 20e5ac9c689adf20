set_option maxRecDepth 20000 in
set_option maxHeartbeats 4000000 in
theorem c_digit {X : jX} {dd : Nat} {V : jH} {c : Int} (hd : 2 ≤ dd) (h_c : (-2147483648 : Int) ≤ c ∧ c ≤ 2147483647) : wk X dd 257 [.int (i32 c)] V (fun o V' => ∃ (r : Int64), V' = V ∧ o = .inl (some (.long r)) ∧ True) := by
  obtain ⟨d, rfl⟩ : ∃ d, dd = d + 1 := ⟨dd - 1, by omega⟩
  refine wk_of (e := jm257) rfl (Nat.le_of_ble_eq_true rfl) ?_
  show wj X d jm257 (0, [(0, .int (i32 (c)))], [], V) _
  refine jx_ld (pc' := 1) (l' := [(0, .int (i32 (c)))]) (st' := [.int (i32 (c))]) rfl (jl_iloadn rfl) ?_
  refine jx_st (pc' := 4) (as := [.int (i32 (c))]) (st := []) rfl rfl ⟨rfl, Nat.le_of_ble_eq_true rfl⟩ rfl rfl rfl (c_isSmall (dd := d) (hd := by omega) (v := c)   (h_v := by omega)  ) (fun o V' hq => ?_)
  obtain ⟨r1, rfl, rfl, b2, q3⟩ := hq
  refine .inr ⟨_, rfl, ?_⟩
  rcases q3 with ⟨rfl, a4, a5⟩ | ⟨rfl, a6⟩
  · have _q : True := trivial
    refine jx_if_eq (pc' := 7) (tg := 17) rfl rfl rfl (by omega) (by omega) (fun h7 => ?_) (fun h7 => ?_)
    · have _q := h7
      exact absurd h7 (by omega)
    · have _q := h7
      refine jx_ld (pc' := 8) (l' := [(0, .int (i32 (c)))]) (st' := [.int (i32 (c))]) rfl (jl_iloadn rfl) ?_
      refine jx_ar (pc' := 10) (st' := [.int (i32 (97)), .int (i32 (c))]) rfl rfl rfl rfl ?_
      refine jx_sub (pc' := 11) rfl rfl ?_
      refine jx_ar (pc' := 12) (st' := .long ((i32 ((c - 97))).toInt64) :: []) rfl rfl rfl rfl ?_
      obtain ⟨y8, ey8⟩ : ∃ q : Int64, q = (i32 ((c - 97))).toInt64 := ⟨_, rfl⟩
      rw [← ey8]
      refine jx_ar (pc' := 13) (st' := [.long (Int64.ofNat 1), .long (y8)]) rfl rfl rfl rfl ?_
      refine jx_ar (pc' := 14) (st' := .long ((y8 : Int64) + (Int64.ofNat 1)) :: []) rfl rfl rfl rfl ?_
      obtain ⟨y9, ey9⟩ : ∃ q : Int64, q = (y8 : Int64) + (Int64.ofNat 1) := ⟨_, rfl⟩
      rw [← ey9]
      refine jx_go (tg := 39) rfl rfl ?_
      refine jx_rt (v := some (.long (y9))) rfl rfl rfl rfl rfl rfl ?_
      exact ⟨_, rfl, rfl, trivial⟩
  · have _q : True := trivial
    refine jx_if_eq (pc' := 7) (tg := 17) rfl rfl rfl (by omega) (by omega) (fun h10 => ?_) (fun h10 => ?_)
    · have _q := h10
      refine jx_ld (pc' := 18) (l' := [(0, .int (i32 (c)))]) (st' := [.int (i32 (c))]) rfl (jl_iloadn rfl) ?_
      refine jx_st (pc' := 21) (as := [.int (i32 (c))]) (st := []) rfl rfl ⟨rfl, Nat.le_of_ble_eq_true rfl⟩ rfl rfl rfl (c_isDigit (dd := d) (hd := by omega) (v := c)   (h_v := by omega)  ) (fun o V' hq => ?_)
      obtain ⟨r11, rfl, rfl, b12, q13⟩ := hq
      refine .inr ⟨_, rfl, ?_⟩
      rcases q13 with ⟨rfl, a14, a15⟩ | ⟨rfl, a16⟩
      · have _q : True := trivial
        refine jx_if_eq (pc' := 24) (tg := 36) rfl rfl rfl (by omega) (by omega) (fun h17 => ?_) (fun h17 => ?_)
        · have _q := h17
          exact absurd h17 (by omega)
        · have _q := h17
          refine jx_ld (pc' := 25) (l' := [(0, .int (i32 (c)))]) (st' := [.int (i32 (c))]) rfl (jl_iloadn rfl) ?_
          refine jx_ar (pc' := 27) (st' := [.int (i32 (48)), .int (i32 (c))]) rfl rfl rfl rfl ?_
          refine jx_sub (pc' := 28) rfl rfl ?_
          refine jx_ar (pc' := 29) (st' := .long ((i32 ((c - 48))).toInt64) :: []) rfl rfl rfl rfl ?_
          obtain ⟨y18, ey18⟩ : ∃ q : Int64, q = (i32 ((c - 48))).toInt64 := ⟨_, rfl⟩
          rw [← ey18]
          refine jx_hp (pc' := 32) (st' := [.long (27), .long (y18)]) rfl rfl rfl rfl rfl rfl ?_
          refine jx_ar (pc' := 33) (st' := .long ((y18 : Int64) + (27)) :: []) rfl rfl rfl rfl ?_
          obtain ⟨y19, ey19⟩ : ∃ q : Int64, q = (y18 : Int64) + (27) := ⟨_, rfl⟩
          rw [← ey19]
          refine jx_go (tg := 39) rfl rfl ?_
          refine jx_rt (v := some (.long (y19))) rfl rfl rfl rfl rfl rfl ?_
          exact ⟨_, rfl, rfl, trivial⟩
      · have _q : True := trivial
        refine jx_if_eq (pc' := 24) (tg := 36) rfl rfl rfl (by omega) (by omega) (fun h20 => ?_) (fun h20 => ?_)
        · have _q := h20
          refine jx_hp (pc' := 39) (st' := [.long (37)]) rfl rfl rfl rfl rfl rfl ?_
          refine jx_rt (v := some (.long (37))) rfl rfl rfl rfl rfl rfl ?_
          exact ⟨_, rfl, rfl, trivial⟩
        · have _q := h20
          exact absurd h20 (by omega)
    · have _q := h10
      exact absurd h10 (by omega)
set_option maxRecDepth 20000 in
set_option maxHeartbeats 4000000 in
theorem c_nameOf {X : jX} {dd : Nat} {V : jH} {s : Nat} {s_s : List Char} (q_s : jTx s = some s_s) (l_s : s < 31) (n_s : s_s.length ≤ 1000) (hd : 3 ≤ dd) : wk X dd 261 [.ref s] V (fun o V' => ∃ (r : Int64), V' = V ∧ o = .inl (some (.long r)) ∧ True) := by
  obtain ⟨d, rfl⟩ : ∃ d, dd = d + 1 := ⟨dd - 1, by omega⟩
  refine wk_of (e := jm261) rfl (Nat.le_of_ble_eq_true rfl) ?_
  show wj X d jm261 (0, [(0, .ref s)], [], V) _
  refine jx_ar (pc' := 1) (st' := [.long (Int64.ofNat 0)]) rfl rfl rfl rfl ?_
  refine jx_ld (pc' := 2) (l' := jSto2 [(0, .ref s)] 1 (.long (Int64.ofNat 0))) (st' := []) rfl rfl ?_
  obtain ⟨L1, eL1⟩ : ∃ q, q = jSto2 [(0, .ref s)] 1 (.long (Int64.ofNat 0)) := ⟨_, rfl⟩
  rw [← eL1]
  have gL1_0 : jGet L1 0 = some (.ref s) := eL1 ▸ jg_ne2 (by decide) (by decide) (rfl : jGet [(0, .ref s)] 0 = some (.ref s)) (.inl rfl)
  have gL1_1 : jGet L1 1 = some (.long (Int64.ofNat 0)) := eL1 ▸ jg_eq2
  refine jx_ar (pc' := 3) (st' := [.int (i32 (0))]) rfl rfl rfl rfl ?_
  refine jx_ld (pc' := 4) (l' := jSto1 L1 3 (.int (i32 (0)))) (st' := []) rfl rfl ?_
  obtain ⟨L2, eL2⟩ : ∃ q, q = jSto1 L1 3 (.int (i32 (0))) := ⟨_, rfl⟩
  rw [← eL2]
  have gL2_0 : jGet L2 0 = some (.ref s) := eL2 ▸ jg_ne (by decide) gL1_0 rfl
  have gL2_1 : jGet L2 1 = some (.long (Int64.ofNat 0)) := eL2 ▸ jg_nel (by decide) gL1_1 (by decide)
  have gL2_3 : jGet L2 3 = some (.int (i32 (0))) := eL2 ▸ jg_eq
  have loop3 : ∀ (m : Nat) (L : jL) (k : Int) (v : Int64), ((s_s.length : Int) - k).toNat = m → jGet L 0 = some (.ref s) → jGet L 3 = some (.int (i32 k)) → jGet L 1 = some (.long v) → ((-2147483648 : Int) ≤ k ∧ k ≤ 2147483647) → (0 ≤ k ∧ k ≤ (s_s.length : Int)) → wj X d jm261 (4, L, [], V) (fun o V' => ∃ (r : Int64), V' = V ∧ o = .inl (some (.long r)) ∧ True) := by
    intro m
    induction m using Nat.strongRecOn with
    | ind m ih =>
      intro L k v hm gL_0 gL_3 gL_1 rx_k iv_0
      refine jx_ld (pc' := 5) (l' := L) (st' := [.int (i32 (k))]) rfl (jl_iloadn gL_3) ?_
      refine jx_ld (pc' := 6) (l' := L) (st' := [.ref s, .int (i32 (k))]) rfl (jl_aloadn gL_0) ?_
      refine jx_sl (pc' := 9) (n := (s_s.length : Int)) rfl rfl q_s ⟨Nat.le_of_ble_eq_true rfl, l_s⟩ rfl rfl ?_
      refine jx_icmp_ge (pc' := 12) (tg := 33) rfl rfl rfl (by omega) (by omega) (by omega) (by omega) (fun h4 => ?_) (fun h4 => ?_)
      · have _q := h4
        refine jx_ld (pc' := 34) (l' := L) (st' := [.long (v)]) rfl (jl_lloadn gL_1) ?_
        refine jx_rt (v := some (.long (v))) rfl rfl rfl rfl rfl rfl ?_
        exact ⟨_, rfl, rfl, trivial⟩
      · have _q := h4
        refine jx_hp (pc' := 15) (st' := [.long (38)]) rfl rfl rfl rfl rfl rfl ?_
        refine jx_ld (pc' := 16) (l' := L) (st' := [.long (v), .long (38)]) rfl (jl_lloadn gL_1) ?_
        refine jx_ar (pc' := 17) (st' := .long ((38 : Int64) * (v)) :: []) rfl rfl rfl rfl ?_
        obtain ⟨y5, ey5⟩ : ∃ q : Int64, q = (38 : Int64) * (v) := ⟨_, rfl⟩
        rw [← ey5]
        refine jx_ld (pc' := 18) (l' := L) (st' := [.ref s, .long (y5)]) rfl (jl_aloadn gL_0) ?_
        refine jx_ld (pc' := 19) (l' := L) (st' := [.int (i32 (k)), .ref s, .long (y5)]) rfl (jl_iloadn gL_3) ?_
        refine jx_sc (pc' := 22) (n := (s_s.length : Int)) rfl rfl q_s ⟨Nat.le_of_ble_eq_true rfl, l_s⟩ rfl (by omega) (by omega) (by omega) rfl (fun r6 hr6 => ?_)
        refine jx_st (pc' := 25) (as := [.int (i32 (r6))]) (st := [.long (y5)]) rfl rfl ⟨rfl, Nat.le_of_ble_eq_true rfl⟩ rfl rfl rfl (c_digit (dd := d) (hd := by omega) (c := r6)   (h_c := by omega)  ) (fun o V' hq => ?_)
        obtain ⟨r7, rfl, rfl, -⟩ := hq
        refine .inr ⟨_, rfl, ?_⟩
        refine jx_ar (pc' := 26) (st' := .long ((y5 : Int64) + (r7)) :: []) rfl rfl rfl rfl ?_
        obtain ⟨y9, ey9⟩ : ∃ q : Int64, q = (y5 : Int64) + (r7) := ⟨_, rfl⟩
        rw [← ey9]
        refine jx_ld (pc' := 27) (l' := jSto2 L 1 (.long (y9))) (st' := []) rfl rfl ?_
        obtain ⟨L10, eL10⟩ : ∃ q, q = jSto2 L 1 (.long (y9)) := ⟨_, rfl⟩
        rw [← eL10]
        have gL10_0 : jGet L10 0 = some (.ref s) := eL10 ▸ jg_ne2 (by decide) (by decide) gL_0 (.inl rfl)
        have gL10_3 : jGet L10 3 = some (.int (i32 (k))) := eL10 ▸ jg_ne2 (by decide) (by decide) gL_3 (.inl rfl)
        have gL10_1 : jGet L10 1 = some (.long (y9)) := eL10 ▸ jg_eq2
        refine jx_inc (pc' := 30) (l' := jSto1 L10 3 (.int (i32 ((k + (1)))))) (x := k) rfl gL10_3 (by decide) rfl rfl ?_
        obtain ⟨L11, eL11⟩ : ∃ q, q = jSto1 L10 3 (.int (i32 ((k + (1))))) := ⟨_, rfl⟩
        rw [← eL11]
        have gL11_0 : jGet L11 0 = some (.ref s) := eL11 ▸ jg_ne (by decide) gL10_0 rfl
        have gL11_1 : jGet L11 1 = some (.long (y9)) := eL11 ▸ jg_nel (by decide) gL10_1 (by decide)
        have gL11_3 : jGet L11 3 = some (.int (i32 ((k + (1))))) := eL11 ▸ jg_eq
        refine jx_go (tg := 4) rfl rfl ?_
        exact ih _ (by omega) L11 ((k + (1))) (y9) rfl gL11_0 gL11_3 gL11_1 (by omega) (by omega)
  exact loop3 _ L2 (0) (Int64.ofNat 0) rfl gL2_0 gL2_3 gL2_1 (by omega) (by omega)
set_option maxRecDepth 20000 in
set_option maxHeartbeats 4000000 in
theorem c_keyOf {X : jX} {dd : Nat} {c0 c1 : jC} {G : Nat → Int} {A : Nat → Nat → Int} {T : jH} {v : Int64} (hd : 1 ≤ dd) (hW : Wk G A) : wk X dd 263 [.ref 66, .long v] (rV c0 c1 G A T) (fun o V' => ∃ (r : Int), V' = rV c0 c1 G A T ∧ o = .inl (some (.int (i32 r))) ∧ ((-2147483648 : Int) ≤ r ∧ r ≤ 2147483647) ∧ True) := by
  obtain ⟨d, rfl⟩ : ∃ d, dd = d + 1 := ⟨dd - 1, by omega⟩
  refine wk_of (e := jm263) rfl (Nat.le_of_ble_eq_true rfl) ?_
  show wj X d jm263 (0, [(0, .ref 66), (1, .long (v))], [], rV c0 c1 G A T) _
  refine jx_hp (pc' := 3) (st' := [.ref 29]) rfl rfl rfl rfl rfl rfl ?_
  refine jx_ld (pc' := 4) (l' := jSto1 [(0, .ref 66), (1, .long (v))] 3 (.ref 29)) (st' := []) rfl rfl ?_
  obtain ⟨L1, eL1⟩ : ∃ q, q = jSto1 [(0, .ref 66), (1, .long (v))] 3 (.ref 29) := ⟨_, rfl⟩
  rw [← eL1]
  have gL1_0 : jGet L1 0 = some (.ref 66) := eL1 ▸ jg_ne (by decide) (rfl : jGet [(0, .ref 66), (1, .long (v))] 0 = some (.ref 66)) rfl
  have gL1_1 : jGet L1 1 = some (.long (v)) := eL1 ▸ jg_nel (by decide) (rfl : jGet [(0, .ref 66), (1, .long (v))] 1 = some (.long (v))) (by decide)
  have gL1_3 : jGet L1 3 = some (.ref 29) := eL1 ▸ jg_eq
  refine jx_ar (pc' := 5) (st' := [.int (i32 (1))]) rfl rfl rfl rfl ?_
  refine jx_ld (pc' := 7) (l' := jSto1 L1 4 (.int (i32 (1)))) (st' := []) rfl rfl ?_
  obtain ⟨L2, eL2⟩ : ∃ q, q = jSto1 L1 4 (.int (i32 (1))) := ⟨_, rfl⟩
  rw [← eL2]
  have gL2_0 : jGet L2 0 = some (.ref 66) := eL2 ▸ jg_ne (by decide) gL1_0 rfl
  have gL2_1 : jGet L2 1 = some (.long (v)) := eL2 ▸ jg_nel (by decide) gL1_1 (by decide)
  have gL2_3 : jGet L2 3 = some (.ref 29) := eL2 ▸ jg_ne (by decide) gL1_3 rfl
  have gL2_4 : jGet L2 4 = some (.int (i32 (1))) := eL2 ▸ jg_eq
  refine jx_ar (pc' := 8) (st' := [.long (Int64.ofNat 0)]) rfl rfl rfl rfl ?_
  refine jx_ld (pc' := 10) (l' := jSto2 L2 5 (.long (Int64.ofNat 0))) (st' := []) rfl rfl ?_
  obtain ⟨L3, eL3⟩ : ∃ q, q = jSto2 L2 5 (.long (Int64.ofNat 0)) := ⟨_, rfl⟩
  rw [← eL3]
  have gL3_0 : jGet L3 0 = some (.ref 66) := eL3 ▸ jg_ne2 (by decide) (by decide) gL2_0 (.inl rfl)
  have gL3_1 : jGet L3 1 = some (.long (v)) := eL3 ▸ jg_ne2 (by decide) (by decide) gL2_1 (.inr (by decide))
  have gL3_3 : jGet L3 3 = some (.ref 29) := eL3 ▸ jg_ne2 (by decide) (by decide) gL2_3 (.inl rfl)
  have gL3_4 : jGet L3 4 = some (.int (i32 (1))) := eL3 ▸ jg_ne2 (by decide) (by decide) gL2_4 (.inl rfl)
  have gL3_5 : jGet L3 5 = some (.long (Int64.ofNat 0)) := eL3 ▸ jg_eq2
  refine jx_ar (pc' := 11) (st' := [.int (i32 (0))]) rfl rfl rfl rfl ?_
  refine jx_ld (pc' := 13) (l' := jSto1 L3 7 (.int (i32 (0)))) (st' := []) rfl rfl ?_
  obtain ⟨L4, eL4⟩ : ∃ q, q = jSto1 L3 7 (.int (i32 (0))) := ⟨_, rfl⟩
  rw [← eL4]
  have gL4_0 : jGet L4 0 = some (.ref 66) := eL4 ▸ jg_ne (by decide) gL3_0 rfl
  have gL4_1 : jGet L4 1 = some (.long (v)) := eL4 ▸ jg_nel (by decide) gL3_1 (by decide)
  have gL4_3 : jGet L4 3 = some (.ref 29) := eL4 ▸ jg_ne (by decide) gL3_3 rfl
  have gL4_4 : jGet L4 4 = some (.int (i32 (1))) := eL4 ▸ jg_ne (by decide) gL3_4 rfl
  have gL4_5 : jGet L4 5 = some (.long (Int64.ofNat 0)) := eL4 ▸ jg_nel (by decide) gL3_5 (by decide)
  have gL4_7 : jGet L4 7 = some (.int (i32 (0))) := eL4 ▸ jg_eq
  have loop5 : ∀ (m : Nat) (L : jL) (nu k : Int) (wv : Int64), (300 - k).toNat = m → jGet L 0 = some (.ref 66) → jGet L 1 = some (.long (v)) → jGet L 3 = some (.ref 29) → jGet L 4 = some (.int (i32 nu)) → jGet L 7 = some (.int (i32 k)) → jGet L 5 = some (.long wv) → ((-2147483648 : Int) ≤ nu ∧ nu ≤ 2147483647) → ((-2147483648 : Int) ≤ k ∧ k ≤ 2147483647) → (0 ≤ k ∧ k ≤ 300) → (0 ≤ nu ∧ nu ≤ k + 1) → wj X d jm263 (13, L, [], rV c0 c1 G A T) (fun o V' => ∃ (r : Int), V' = rV c0 c1 G A T ∧ o = .inl (some (.int (i32 r))) ∧ ((-2147483648 : Int) ≤ r ∧ r ≤ 2147483647) ∧ True) := by
    intro m
    induction m using Nat.strongRecOn with
    | ind m ih =>
      intro L nu k wv hm gL_0 gL_1 gL_3 gL_4 gL_7 gL_5 rx_nu rx_k iv_0 iv_1
      refine jx_ld (pc' := 15) (l' := L) (st' := [.int (i32 (k))]) rfl (jl_iload gL_7) ?_
      refine jx_ld (pc' := 16) (l' := L) (st' := [.ref 29, .int (i32 (k))]) rfl (jl_aloadn gL_3) ?_
      refine jx_sl (pc' := 19) (n := 109) rfl rfl rfl ⟨Nat.le_of_ble_eq_true rfl, (by decide)⟩ (by decide) rfl ?_
      refine jx_icmp_ge (pc' := 22) (tg := 80) rfl rfl rfl (by omega) (by omega) (by omega) (by omega) (fun h6 => ?_) (fun h6 => ?_)
      · have _q := h6
        refine jx_ar (pc' := 81) (st' := [.int (i32 (0))]) rfl rfl rfl rfl ?_
        refine jx_rt (v := some (.int (i32 (0)))) rfl rfl rfl rfl rfl rfl ?_
        exact ⟨_, rfl, rfl, by omega, trivial⟩
      · have _q := h6
        refine jx_ld (pc' := 23) (l' := L) (st' := [.ref 29]) rfl (jl_aloadn gL_3) ?_
        refine jx_ld (pc' := 25) (l' := L) (st' := [.int (i32 (k)), .ref 29]) rfl (jl_iload gL_7) ?_
        refine jx_sc (pc' := 28) (n := 109) rfl rfl rfl ⟨Nat.le_of_ble_eq_true rfl, (by decide)⟩ (by decide) (by omega) (by omega) (by omega) rfl (fun r7 hr7 => ?_)
        refine jx_ar (pc' := 30) (st' := [.int (i32 (44)), .int (i32 (r7))]) rfl rfl rfl rfl ?_
        refine jx_icmp_eq (pc' := 33) (tg := 58) rfl rfl rfl (by omega) (by omega) (by omega) (by omega) (fun h8 => ?_) (fun h8 => ?_)
        · have _q := h8
          refine jx_ld (pc' := 60) (l' := L) (st' := [.long (wv)]) rfl (jl_lload gL_5) ?_
          refine jx_ld (pc' := 61) (l' := L) (st' := [.long (v), .long (wv)]) rfl (jl_lloadn gL_1) ?_
          refine jx_lcmp (pc' := 62) rfl rfl (fun r9 hr9 => ?_)
          refine jx_if_ne (pc' := 65) (tg := 68) rfl rfl rfl (by omega) (by omega) (fun h10 => ?_) (fun h10 => ?_)
          · have _q := h10
            refine jx_inc (pc' := 71) (l' := jSto1 L 4 (.int (i32 ((nu + (1)))))) (x := nu) rfl gL_4 (by decide) rfl rfl ?_
            obtain ⟨L11, eL11⟩ : ∃ q, q = jSto1 L 4 (.int (i32 ((nu + (1))))) := ⟨_, rfl⟩
            rw [← eL11]
            have gL11_0 : jGet L11 0 = some (.ref 66) := eL11 ▸ jg_ne (by decide) gL_0 rfl
            have gL11_1 : jGet L11 1 = some (.long (v)) := eL11 ▸ jg_nel (by decide) gL_1 (by decide)
            have gL11_3 : jGet L11 3 = some (.ref 29) := eL11 ▸ jg_ne (by decide) gL_3 rfl
            have gL11_7 : jGet L11 7 = some (.int (i32 (k))) := eL11 ▸ jg_ne (by decide) gL_7 rfl
            have gL11_5 : jGet L11 5 = some (.long (wv)) := eL11 ▸ jg_nel (by decide) gL_5 (by decide)
            have gL11_4 : jGet L11 4 = some (.int (i32 ((nu + (1))))) := eL11 ▸ jg_eq
            refine jx_ar (pc' := 72) (st' := [.long (Int64.ofNat 0)]) rfl rfl rfl rfl ?_
            refine jx_ld (pc' := 74) (l' := jSto2 L11 5 (.long (Int64.ofNat 0))) (st' := []) rfl rfl ?_
            obtain ⟨L12, eL12⟩ : ∃ q, q = jSto2 L11 5 (.long (Int64.ofNat 0)) := ⟨_, rfl⟩
            rw [← eL12]
            have gL12_0 : jGet L12 0 = some (.ref 66) := eL12 ▸ jg_ne2 (by decide) (by decide) gL11_0 (.inl rfl)
            have gL12_1 : jGet L12 1 = some (.long (v)) := eL12 ▸ jg_ne2 (by decide) (by decide) gL11_1 (.inr (by decide))
            have gL12_3 : jGet L12 3 = some (.ref 29) := eL12 ▸ jg_ne2 (by decide) (by decide) gL11_3 (.inl rfl)
            have gL12_7 : jGet L12 7 = some (.int (i32 (k))) := eL12 ▸ jg_ne2 (by decide) (by decide) gL11_7 (.inl rfl)
            have gL12_4 : jGet L12 4 = some (.int (i32 ((nu + (1))))) := eL12 ▸ jg_ne2 (by decide) (by decide) gL11_4 (.inl rfl)
            have gL12_5 : jGet L12 5 = some (.long (Int64.ofNat 0)) := eL12 ▸ jg_eq2
            refine jx_inc (pc' := 77) (l' := jSto1 L12 7 (.int (i32 ((k + (1)))))) (x := k) rfl gL12_7 (by decide) rfl rfl ?_
            obtain ⟨L13, eL13⟩ : ∃ q, q = jSto1 L12 7 (.int (i32 ((k + (1))))) := ⟨_, rfl⟩
            rw [← eL13]
            have gL13_0 : jGet L13 0 = some (.ref 66) := eL13 ▸ jg_ne (by decide) gL12_0 rfl
            have gL13_1 : jGet L13 1 = some (.long (v)) := eL13 ▸ jg_nel (by decide) gL12_1 (by decide)
            have gL13_3 : jGet L13 3 = some (.ref 29) := eL13 ▸ jg_ne (by decide) gL12_3 rfl
            have gL13_4 : jGet L13 4 = some (.int (i32 ((nu + (1))))) := eL13 ▸ jg_ne (by decide) gL12_4 rfl
            have gL13_5 : jGet L13 5 = some (.long (Int64.ofNat 0)) := eL13 ▸ jg_nel (by decide) gL12_5 (by decide)
            have gL13_7 : jGet L13 7 = some (.int (i32 ((k + (1))))) := eL13 ▸ jg_eq
            refine jx_go (tg := 13) rfl rfl ?_
            exact ih _ (by omega) L13 ((nu + (1))) ((k + (1))) (Int64.ofNat 0) rfl gL13_0 gL13_1 gL13_3 gL13_4 gL13_7 gL13_5 (by omega) (by omega) (by omega) (by omega)
          · have _q := h10
            refine jx_ld (pc' := 67) (l' := L) (st' := [.int (i32 (nu))]) rfl (jl_iload gL_4) ?_
            refine jx_rt (v := some (.int (i32 (nu)))) rfl rfl rfl rfl rfl rfl ?_
            exact ⟨_, rfl, rfl, by omega, trivial⟩
        · have _q := h8
          refine jx_hp (pc' := 36) (st' := [.long (27)]) rfl rfl rfl rfl rfl rfl ?_
          refine jx_ld (pc' := 38) (l' := L) (st' := [.long (wv), .long (27)]) rfl (jl_lload gL_5) ?_
          refine jx_ar (pc' := 39) (st' := .long ((27 : Int64) * (wv)) :: []) rfl rfl rfl rfl ?_
          obtain ⟨y14, ey14⟩ : ∃ q : Int64, q = (27 : Int64) * (wv) := ⟨_, rfl⟩
          rw [← ey14]
          refine jx_ld (pc' := 40) (l' := L) (st' := [.ref 29, .long (y14)]) rfl (jl_aloadn gL_3) ?_
          refine jx_ld (pc' := 42) (l' := L) (st' := [.int (i32 (k)), .ref 29, .long (y14)]) rfl (jl_iload gL_7) ?_
          refine jx_sc (pc' := 45) (n := 109) rfl rfl rfl ⟨Nat.le_of_ble_eq_true rfl, (by decide)⟩ (by decide) (by omega) (by omega) (by omega) rfl (fun r15 hr15 => ?_)
          refine jx_ar (pc' := 46) (st' := .long ((i32 (r15)).toInt64) :: [.long (y14)]) rfl rfl rfl rfl ?_
          obtain ⟨y16, ey16⟩ : ∃ q : Int64, q = (i32 (r15)).toInt64 := ⟨_, rfl⟩
          rw [← ey16]
          refine jx_ar (pc' := 47) (st' := .long ((y14 : Int64) + (y16)) :: []) rfl rfl rfl rfl ?_
          obtain ⟨y17, ey17⟩ : ∃ q : Int64, q = (y14 : Int64) + (y16) := ⟨_, rfl⟩
          rw [← ey17]
          refine jx_hp (pc' := 50) (st' := [.long (65), .long (y17)]) rfl rfl rfl rfl rfl rfl ?_
          refine jx_ar (pc' := 51) (st' := .long ((y17 : Int64) - (65)) :: []) rfl rfl rfl rfl ?_
          obtain ⟨y18, ey18⟩ : ∃ q : Int64, q = (y17 : Int64) - (65) := ⟨_, rfl⟩
          rw [← ey18]
          refine jx_ar (pc' := 52) (st' := [.long (Int64.ofNat 1), .long (y18)]) rfl rfl rfl rfl ?_
          refine jx_ar (pc' := 53) (st' := .long ((y18 : Int64) + (Int64.ofNat 1)) :: []) rfl rfl rfl rfl ?_
          obtain ⟨y19, ey19⟩ : ∃ q : Int64, q = (y18 : Int64) + (Int64.ofNat 1) := ⟨_, rfl⟩
          rw [← ey19]
          refine jx_ld (pc' := 55) (l' := jSto2 L 5 (.long (y19))) (st' := []) rfl rfl ?_
          obtain ⟨L20, eL20⟩ : ∃ q, q = jSto2 L 5 (.long (y19)) := ⟨_, rfl⟩
          rw [← eL20]
          have gL20_0 : jGet L20 0 = some (.ref 66) := eL20 ▸ jg_ne2 (by decide) (by decide) gL_0 (.inl rfl)
          have gL20_1 : jGet L20 1 = some (.long (v)) := eL20 ▸ jg_ne2 (by decide) (by decide) gL_1 (.inr (by decide))
          have gL20_3 : jGet L20 3 = some (.ref 29) := eL20 ▸ jg_ne2 (by decide) (by decide) gL_3 (.inl rfl)
          have gL20_4 : jGet L20 4 = some (.int (i32 (nu))) := eL20 ▸ jg_ne2 (by decide) (by decide) gL_4 (.inl rfl)
          have gL20_7 : jGet L20 7 = some (.int (i32 (k))) := eL20 ▸ jg_ne2 (by decide) (by decide) gL_7 (.inl rfl)
          have gL20_5 : jGet L20 5 = some (.long (y19)) := eL20 ▸ jg_eq2
          refine jx_go (tg := 74) rfl rfl ?_
          refine jx_inc (pc' := 77) (l' := jSto1 L20 7 (.int (i32 ((k + (1)))))) (x := k) rfl gL20_7 (by decide) rfl rfl ?_
          obtain ⟨L21, eL21⟩ : ∃ q, q = jSto1 L20 7 (.int (i32 ((k + (1))))) := ⟨_, rfl⟩
          rw [← eL21]
          have gL21_0 : jGet L21 0 = some (.ref 66) := eL21 ▸ jg_ne (by decide) gL20_0 rfl
          have gL21_1 : jGet L21 1 = some (.long (v)) := eL21 ▸ jg_nel (by decide) gL20_1 (by decide)
          have gL21_3 : jGet L21 3 = some (.ref 29) := eL21 ▸ jg_ne (by decide) gL20_3 rfl
          have gL21_4 : jGet L21 4 = some (.int (i32 (nu))) := eL21 ▸ jg_ne (by decide) gL20_4 rfl
          have gL21_5 : jGet L21 5 = some (.long (y19)) := eL21 ▸ jg_nel (by decide) gL20_5 (by decide)
          have gL21_7 : jGet L21 7 = some (.int (i32 ((k + (1))))) := eL21 ▸ jg_eq
          refine jx_go (tg := 13) rfl rfl ?_
          exact ih _ (by omega) L21 (nu) ((k + (1))) (y19) rfl gL21_0 gL21_1 gL21_3 gL21_4 gL21_7 gL21_5 (by omega) (by omega) (by omega) (by omega)
  exact loop5 _ L4 (1) (0) (Int64.ofNat 0) rfl gL4_0 gL4_1 gL4_3 gL4_4 gL4_7 gL4_5 (by omega) (by omega) (by omega) (by omega)
set_option maxRecDepth 20000 in
set_option maxHeartbeats 4000000 in
theorem c_pair {X : jX} {dd : Nat} {V : jH} {c e : Int} (hd : 1 ≤ dd) (h_c : (-2147483648 : Int) ≤ c ∧ c ≤ 2147483647) (h_e : (-2147483648 : Int) ≤ e ∧ e ≤ 2147483647) : wk X dd 265 [.int (i32 c), .int (i32 e)] V (fun o V' => ∃ (r : Int), V' = V ∧ o = .inl (some (.int (i32 r))) ∧ ((-2147483648 : Int) ≤ r ∧ r ≤ 2147483647) ∧ (0 ≤ r ∧ r ≤ 307) ∧ (r = 0 ∨ e ≠ 0) ∧ True) := by
  obtain ⟨d, rfl⟩ : ∃ d, dd = d + 1 := ⟨dd - 1, by omega⟩
  refine wk_of (e := jm265) rfl (Nat.le_of_ble_eq_true rfl) ?_
  show wj X d jm265 (0, [(0, .int (i32 (c))), (1, .int (i32 (e)))], [], V) _
  refine jx_ld (pc' := 1) (l' := [(0, .int (i32 (c))), (1, .int (i32 (e)))]) (st' := [.int (i32 (c))]) rfl (jl_iloadn rfl) ?_
  rcases (by omega : c = 47 ∨ c = 58 ∨ c = 60 ∨ c = 62 ∨ c = 92 ∨ (c ≠ 47 ∧ c ≠ 58 ∧ c ≠ 60 ∧ c ≠ 62 ∧ c ≠ 92)) with h1 | h1 | h1 | h1 | h1 | h1
  · refine jx_swe (z := 47) (tg := 130) h1 rfl rfl rfl rfl ?_
    refine jx_ld (pc' := 131) (l' := [(0, .int (i32 (c))), (1, .int (i32 (e)))]) (st' := [.int (i32 (e))]) rfl (jl_iloadn rfl) ?_
    refine jx_ar (pc' := 133) (st' := [.int (i32 (92)), .int (i32 (e))]) rfl rfl rfl rfl ?_
    refine jx_icmp_ne (pc' := 136) (tg := 142) rfl rfl rfl (by omega) (by omega) (by omega) (by omega) (fun h2 => ?_) (fun h2 => ?_)
    · have _q := h2
      refine jx_ar (pc' := 143) (st' := [.int (i32 (0))]) rfl rfl rfl rfl ?_
      refine jx_rt (v := some (.int (i32 (0)))) rfl rfl rfl rfl rfl rfl ?_
      exact ⟨_, rfl, rfl, by omega, by omega, by omega, trivial⟩
    · have _q := h2
      refine jx_ar (pc' := 139) (st' := [.int (i32 (306))]) rfl rfl rfl rfl ?_
      refine jx_go (tg := 143) rfl rfl ?_
      refine jx_rt (v := some (.int (i32 (306)))) rfl rfl rfl rfl rfl rfl ?_
      exact ⟨_, rfl, rfl, by omega, by omega, by omega, trivial⟩
  · refine jx_swe (z := 58) (tg := 52) h1 rfl rfl rfl rfl ?_
    refine jx_ld (pc' := 53) (l' := [(0, .int (i32 (c))), (1, .int (i32 (e)))]) (st' := [.int (i32 (e))]) rfl (jl_iloadn rfl) ?_
    refine jx_ar (pc' := 55) (st' := [.int (i32 (61)), .int (i32 (e))]) rfl rfl rfl rfl ?_
    refine jx_icmp_ne (pc' := 58) (tg := 64) rfl rfl rfl (by omega) (by omega) (by omega) (by omega) (fun h3 => ?_) (fun h3 => ?_)
    · have _q := h3
      refine jx_ar (pc' := 65) (st' := [.int (i32 (0))]) rfl rfl rfl rfl ?_
      refine jx_rt (v := some (.int (i32 (0)))) rfl rfl rfl rfl rfl rfl ?_
      exact ⟨_, rfl, rfl, by omega, by omega, by omega, trivial⟩
    · have _q := h3
      refine jx_ar (pc' := 61) (st' := [.int (i32 (300))]) rfl rfl rfl rfl ?_
      refine jx_go (tg := 65) rfl rfl ?_
      refine jx_rt (v := some (.int (i32 (300)))) rfl rfl rfl rfl rfl rfl ?_
      exact ⟨_, rfl, rfl, by omega, by omega, by omega, trivial⟩
  · refine jx_swe (z := 60) (tg := 66) h1 rfl rfl rfl rfl ?_
    refine jx_ld (pc' := 67) (l' := [(0, .int (i32 (c))), (1, .int (i32 (e)))]) (st' := [.int (i32 (e))]) rfl (jl_iloadn rfl) ?_
    refine jx_ar (pc' := 69) (st' := [.int (i32 (62)), .int (i32 (e))]) rfl rfl rfl rfl ?_
    refine jx_icmp_ne (pc' := 72) (tg := 78) rfl rfl rfl (by omega) (by omega) (by omega) (by omega) (fun h4 => ?_) (fun h4 => ?_)
    · have _q := h4
      refine jx_ld (pc' := 79) (l' := [(0, .int (i32 (c))), (1, .int (i32 (e)))]) (st' := [.int (i32 (e))]) rfl (jl_iloadn rfl) ?_
      refine jx_ar (pc' := 81) (st' := [.int (i32 (61)), .int (i32 (e))]) rfl rfl rfl rfl ?_
      refine jx_icmp_ne (pc' := 84) (tg := 90) rfl rfl rfl (by omega) (by omega) (by omega) (by omega) (fun h5 => ?_) (fun h5 => ?_)
      · have _q := h5
        refine jx_ld (pc' := 91) (l' := [(0, .int (i32 (c))), (1, .int (i32 (e)))]) (st' := [.int (i32 (e))]) rfl (jl_iloadn rfl) ?_
        refine jx_ar (pc' := 93) (st' := [.int (i32 (60)), .int (i32 (e))]) rfl rfl rfl rfl ?_
        refine jx_icmp_ne (pc' := 96) (tg := 102) rfl rfl rfl (by omega) (by omega) (by omega) (by omega) (fun h6 => ?_) (fun h6 => ?_)
        · have _q := h6
          refine jx_ar (pc' := 103) (st' := [.int (i32 (0))]) rfl rfl rfl rfl ?_
          refine jx_rt (v := some (.int (i32 (0)))) rfl rfl rfl rfl rfl rfl ?_
          exact ⟨_, rfl, rfl, by omega, by omega, by omega, trivial⟩
        · have _q := h6
          refine jx_ar (pc' := 99) (st' := [.int (i32 (304))]) rfl rfl rfl rfl ?_
          refine jx_go (tg := 103) rfl rfl ?_
          refine jx_rt (v := some (.int (i32 (304)))) rfl rfl rfl rfl rfl rfl ?_
          exact ⟨_, rfl, rfl, by omega, by omega, by omega, trivial⟩
      · have _q := h5
        refine jx_ar (pc' := 87) (st' := [.int (i32 (302))]) rfl rfl rfl rfl ?_
        refine jx_go (tg := 103) rfl rfl ?_
        refine jx_rt (v := some (.int (i32 (302)))) rfl rfl rfl rfl rfl rfl ?_
        exact ⟨_, rfl, rfl, by omega, by omega, by omega, trivial⟩
    · have _q := h4
      refine jx_ar (pc' := 75) (st' := [.int (i32 (301))]) rfl rfl rfl rfl ?_
      refine jx_go (tg := 103) rfl rfl ?_
      refine jx_rt (v := some (.int (i32 (301)))) rfl rfl rfl rfl rfl rfl ?_
      exact ⟨_, rfl, rfl, by omega, by omega, by omega, trivial⟩
  · refine jx_swe (z := 62) (tg := 104) h1 rfl rfl rfl rfl ?_
    refine jx_ld (pc' := 105) (l' := [(0, .int (i32 (c))), (1, .int (i32 (e)))]) (st' := [.int (i32 (e))]) rfl (jl_iloadn rfl) ?_
    refine jx_ar (pc' := 107) (st' := [.int (i32 (61)), .int (i32 (e))]) rfl rfl rfl rfl ?_
    refine jx_icmp_ne (pc' := 110) (tg := 116) rfl rfl rfl (by omega) (by omega) (by omega) (by omega) (fun h7 => ?_) (fun h7 => ?_)
    · have _q := h7
      refine jx_ld (pc' := 117) (l' := [(0, .int (i32 (c))), (1, .int (i32 (e)))]) (st' := [.int (i32 (e))]) rfl (jl_iloadn rfl) ?_
      refine jx_ar (pc' := 119) (st' := [.int (i32 (62)), .int (i32 (e))]) rfl rfl rfl rfl ?_
      refine jx_icmp_ne (pc' := 122) (tg := 128) rfl rfl rfl (by omega) (by omega) (by omega) (by omega) (fun h8 => ?_) (fun h8 => ?_)
      · have _q := h8
        refine jx_ar (pc' := 129) (st' := [.int (i32 (0))]) rfl rfl rfl rfl ?_
        refine jx_rt (v := some (.int (i32 (0)))) rfl rfl rfl rfl rfl rfl ?_
        exact ⟨_, rfl, rfl, by omega, by omega, by omega, trivial⟩
      · have _q := h8
        refine jx_ar (pc' := 125) (st' := [.int (i32 (305))]) rfl rfl rfl rfl ?_
        refine jx_go (tg := 129) rfl rfl ?_
        refine jx_rt (v := some (.int (i32 (305)))) rfl rfl rfl rfl rfl rfl ?_
        exact ⟨_, rfl, rfl, by omega, by omega, by omega, trivial⟩
    · have _q := h7
      refine jx_ar (pc' := 113) (st' := [.int (i32 (303))]) rfl rfl rfl rfl ?_
      refine jx_go (tg := 129) rfl rfl ?_
      refine jx_rt (v := some (.int (i32 (303)))) rfl rfl rfl rfl rfl rfl ?_
      exact ⟨_, rfl, rfl, by omega, by omega, by omega, trivial⟩
  · refine jx_swe (z := 92) (tg := 144) h1 rfl rfl rfl rfl ?_
    refine jx_ld (pc' := 145) (l' := [(0, .int (i32 (c))), (1, .int (i32 (e)))]) (st' := [.int (i32 (e))]) rfl (jl_iloadn rfl) ?_
    refine jx_ar (pc' := 147) (st' := [.int (i32 (47)), .int (i32 (e))]) rfl rfl rfl rfl ?_
    refine jx_icmp_ne (pc' := 150) (tg := 156) rfl rfl rfl (by omega) (by omega) (by omega) (by omega) (fun h9 => ?_) (fun h9 => ?_)
    · have _q := h9
      refine jx_ar (pc' := 157) (st' := [.int (i32 (0))]) rfl rfl rfl rfl ?_
      refine jx_rt (v := some (.int (i32 (0)))) rfl rfl rfl rfl rfl rfl ?_
      exact ⟨_, rfl, rfl, by omega, by omega, by omega, trivial⟩
    · have _q := h9
      refine jx_ar (pc' := 153) (st' := [.int (i32 (307))]) rfl rfl rfl rfl ?_
      refine jx_go (tg := 157) rfl rfl ?_
      refine jx_rt (v := some (.int (i32 (307)))) rfl rfl rfl rfl rfl rfl ?_
      exact ⟨_, rfl, rfl, by omega, by omega, by omega, trivial⟩
  · refine jx_swd (tg := 158) (by omega) (by omega) rfl (by decide) (by simp; omega) rfl ?_
    refine jx_ar (pc' := 159) (st' := [.int (i32 (0))]) rfl rfl rfl rfl ?_
    refine jx_rt (v := some (.int (i32 (0)))) rfl rfl rfl rfl rfl rfl ?_
    exact ⟨_, rfl, rfl, by omega, by omega, by omega, trivial⟩
set_option maxRecDepth 20000 in
set_option maxHeartbeats 4000000 in
theorem c_nameToken {X : jX} {dd : Nat} {c0 c1 : jC} {G : Nat → Int} {A : Nat → Nat → Int} {T : jH} {ln le at0 tx : Int} (hd : 3 ≤ dd) (hW : Wk G A) (e_ln : G 9 = ln) (e_le : A 4 (ln).toNat = le) (e_at0 : G 10 = at0) (e_tx : A 0 (at0).toNat = tx) (p_0 : at0 < le) (p_1 : 97 ≤ tx ∧ tx ≤ 122) : wk X dd 260 [.ref 66] (rV c0 c1 G A T) (fun o V' => ∃ (G' : Nat → Int) (A' : Nat → Nat → Int) (at2 : Int) (tk2 : Int), V' = rV c0 c1 G' A' T ∧ o = .inl none ∧ Wk G' A' ∧ Fr [10, 11, 14] [] G A G' A' ∧ G' 10 = at2 ∧ G' 11 = tk2 ∧ (at0 < at2) ∧ (at2 ≤ le) ∧ (1 ≤ tk2) ∧ True) := by
  obtain ⟨d, rfl⟩ : ∃ d, dd = d + 1 := ⟨dd - 1, by omega⟩
  refine wk_of (e := jm260) rfl (Nat.le_of_ble_eq_true rfl) ?_
  show wj X d jm260 (0, [(0, .ref 66)], [], rV c0 c1 G A T) _
  have hF0 : Fr [10, 11, 14] [] G A G A := Fr_rf
  have b_ln : (0 : Int) ≤ ln ∧ ln ≤ 3000 := e_ln ▸ hW.1 9
  have b_le : (0 : Int) ≤ le ∧ le ≤ 3000 := e_le ▸ hW.2 4 _
  have b_at0 : (0 : Int) ≤ at0 ∧ at0 ≤ 3002 := e_at0 ▸ hW.1 10
  have b_tx : (0 : Int) ≤ tx ∧ tx ≤ 126 := e_tx ▸ hW.2 0 _
  refine jx_ar (pc' := 1) (st' := [.int (i32 (0))]) rfl rfl rfl rfl ?_
  refine jx_ld (pc' := 2) (l' := jSto1 [(0, .ref 66)] 1 (.int (i32 (0)))) (st' := []) rfl rfl ?_
  obtain ⟨L1, eL1⟩ : ∃ q, q = jSto1 [(0, .ref 66)] 1 (.int (i32 (0))) := ⟨_, rfl⟩
  rw [← eL1]
  have gL1_0 : jGet L1 0 = some (.ref 66) := eL1 ▸ jg_ne (by decide) (rfl : jGet [(0, .ref 66)] 0 = some (.ref 66)) rfl
  have gL1_1 : jGet L1 1 = some (.int (i32 (0))) := eL1 ▸ jg_eq
  refine jx_ld (pc' := 3) (l' := L1) (st' := [.ref 66]) rfl (jl_aloadn gL1_0) ?_
  refine jx_ar (pc' := 4) (st' := [.long (Int64.ofNat 0), .ref 66]) rfl rfl rfl rfl ?_
  have rl2 := i64_rg (Int64.ofNat 0)
  refine jr_put (pc' := 7) (i := 14) (z := (Int64.ofNat 0 : Int64).toInt) rfl rfl (by decide) rfl rfl rfl rfl (congrArg Value.long (i64_of (Int64.ofNat 0))) rfl ?_
  have hW3 : Wk (uG G 14 ((Int64.ofNat 0 : Int64).toInt)) A := Wk_g hW (show (-9223372036854775808 : Int) ≤ (Int64.ofNat 0 : Int64).toInt by omega) (show (Int64.ofNat 0 : Int64).toInt ≤ (9223372036854775807 : Int) by omega)
  have hF4 := Fr_g (z := (Int64.ofNat 0 : Int64).toInt) (i := 14) hF0 (by decide)
  have loop5 : ∀ (m : Nat) (L : jL) (Gx : Nat → Int) (Ax : Nat → Nat → Int) (n at1 cur : Int), (le - at1).toNat = m → jGet L 0 = some (.ref 66) → jGet L 1 = some (.int (i32 n)) → Wk Gx Ax → Fr [10, 11, 14] [] G A Gx Ax → Gx 10 = at1 → Ax 0 (at1).toNat = cur → ((-2147483648 : Int) ≤ n ∧ n ≤ 2147483647) → (at0 ≤ at1 ∧ at1 ≤ le) → (at1 = at0 → cur = tx) → (n = at1 - at0) → wj X d jm260 (7, L, [], rV c0 c1 Gx Ax T) (fun o V' => ∃ (G' : Nat → Int) (A' : Nat → Nat → Int) (at2 : Int) (tk2 : Int), V' = rV c0 c1 G' A' T ∧ o = .inl none ∧ Wk G' A' ∧ Fr [10, 11, 14] [] G A G' A' ∧ G' 10 = at2 ∧ G' 11 = tk2 ∧ (at0 < at2) ∧ (at2 ≤ le) ∧ (1 ≤ tk2) ∧ True) := by
    intro m
    induction m using Nat.strongRecOn with
    | ind m ih =>
      intro L Gx Ax n at1 cur hm gL_0 gL_1 hWx hFx ex_at1 ex_cur rx_n iv_0 iv_1 iv_2
      have b_at1 : (0 : Int) ≤ at1 ∧ at1 ≤ 3002 := ex_at1 ▸ hWx.1 10
      refine jx_ld (pc' := 8) (l' := L) (st' := [.ref 66]) rfl (jl_aloadn gL_0) ?_
      refine jx_ld (pc' := 9) (l' := L) (st' := [.ref 66, .ref 66]) rfl (jl_aloadn gL_0) ?_
      refine jr_get (pc' := 12) (i := 10) (v := .int (i32 (at1))) rfl rfl (by decide) (rFv_eq (by decide) (show Gx 10 = at1 from (ex_at1))) rfl ?_
      refine jx_vr (pc' := 15) (as := [.int (i32 (at1))]) (st := []) rfl rfl rfl rfl ⟨rfl, rfl, Nat.le_of_ble_eq_true rfl⟩ rfl rfl (c_sign (dd := d) (hd := by omega) (hW := hWx) (k := at1) (ln := ln) (e_ln := show Gx 9 = ln from ((hFx.1 9 rfl).trans (e_ln))) (le := le) (e_le := show Ax 4 (ln).toNat = le from (congrFun (hFx.2 4 rfl) _).trans (e_le)) (tx := cur) (e_tx := show Ax 0 (at1).toNat = cur from (ex_cur))  (h_k := by omega)  (p_0 := by omega)) (fun o V' hq => ?_)
      obtain ⟨r6, rfl, rfl, b7, q8⟩ := hq
      refine .inr ⟨_, rfl, ?_⟩
      rcases q8 with ⟨a9, a10⟩ | ⟨a11, a12⟩
      · have _q : True := trivial
        refine jx_st (pc' := 18) (as := [.int (i32 (r6))]) (st := []) rfl rfl ⟨rfl, Nat.le_of_ble_eq_true rfl⟩ rfl rfl rfl (c_isSmall (dd := d) (hd := by omega) (v := r6)   (h_v := by omega)  ) (fun o V' hq => ?_)
        obtain ⟨r13, rfl, rfl, b14, q15⟩ := hq
        refine .inr ⟨_, rfl, ?_⟩
        rcases q15 with ⟨rfl, a16, a17⟩ | ⟨rfl, a18⟩
        · have _q : True := trivial
          refine jx_if_ne (pc' := 21) (tg := 48) rfl rfl rfl (by omega) (by omega) (fun h19 => ?_) (fun h19 => ?_)
          · have _q := h19
            refine jx_ld (pc' := 49) (l' := L) (st' := [.ref 66]) rfl (jl_aloadn gL_0) ?_
            refine jx_ld (pc' := 50) (l' := L) (st' := [.int (i32 (n)), .ref 66]) rfl (jl_iloadn gL_1) ?_
            refine jx_ar (pc' := 52) (st' := [.int (i32 (10)), .int (i32 (n)), .ref 66]) rfl rfl rfl rfl ?_
            refine jx_icmp_ge (pc' := 55) (tg := 78) rfl rfl rfl (by omega) (by omega) (by omega) (by omega) (fun h20 => ?_) (fun h20 => ?_)
            · have _q := h20
              refine jx_ld (pc' := 79) (l' := L) (st' := [.ref 66, .ref 66]) rfl (jl_aloadn gL_0) ?_
              refine jr_get (pc' := 82) (i := 14) (v := .long (i64 (Gx 14))) rfl rfl (by decide) rfl rfl ?_
              obtain ⟨y21, ey21⟩ : ∃ q : Int64, q = i64 (Gx 14) := ⟨_, rfl⟩
              rw [← ey21]
              have rl22 := i64_rg (y21)
              refine jr_put (pc' := 85) (i := 14) (z := (y21 : Int64).toInt) rfl rfl (by decide) rfl rfl rfl rfl (congrArg Value.long (i64_of (y21))) rfl ?_
              have hW23 : Wk (uG Gx 14 ((y21 : Int64).toInt)) Ax := Wk_g hWx (show (-9223372036854775808 : Int) ≤ (y21 : Int64).toInt by omega) (show (y21 : Int64).toInt ≤ (9223372036854775807 : Int) by omega)
              have hF24 := Fr_g (z := (y21 : Int64).toInt) (i := 14) hFx (by decide)
              refine jx_inc (pc' := 88) (l' := jSto1 L 1 (.int (i32 ((n + (1)))))) (x := n) rfl gL_1 (by decide) rfl rfl ?_
              obtain ⟨L25, eL25⟩ : ∃ q, q = jSto1 L 1 (.int (i32 ((n + (1))))) := ⟨_, rfl⟩
              rw [← eL25]
              have gL25_0 : jGet L25 0 = some (.ref 66) := eL25 ▸ jg_ne (by decide) gL_0 rfl
              have gL25_1 : jGet L25 1 = some (.int (i32 ((n + (1))))) := eL25 ▸ jg_eq
              refine jx_ld (pc' := 89) (l' := L25) (st' := [.ref 66]) rfl (jl_aloadn gL25_0) ?_
              refine jx_ar (pc' := 90) (st' := [.ref 66, .ref 66]) rfl rfl rfl rfl ?_
              refine jr_get (pc' := 93) (i := 10) (v := .int (i32 (at1))) rfl rfl (by decide) (rFv_eq (by decide) (show (uG Gx 14 ((y21 : Int64).toInt)) 10 = at1 from (ex_at1))) rfl ?_
              refine jx_ar (pc' := 94) (st' := [.int (i32 (1)), .int (i32 (at1)), .ref 66]) rfl rfl rfl rfl ?_
              refine jx_add (pc' := 95) rfl rfl ?_
              refine jr_put (pc' := 98) (i := 10) (z := (at1 + 1)) rfl rfl (by decide) rfl rfl rfl rfl rfl rfl ?_
              have hW26 : Wk (uG (uG Gx 14 ((y21 : Int64).toInt)) 10 ((at1 + 1))) Ax := Wk_g hW23 (show (0 : Int) ≤ (at1 + 1) by omega) (show (at1 + 1) ≤ (3002 : Int) by omega)
              have hF27 := Fr_g (z := (at1 + 1)) (i := 10) hF24 (by decide)
              refine jx_go (tg := 7) rfl rfl ?_
              exact ih _ (by omega) L25 (uG (uG Gx 14 ((y21 : Int64).toInt)) 10 ((at1 + 1))) Ax ((n + (1))) ((at1 + 1)) (A 0 ((at1 + 1)).toNat) rfl gL25_0 gL25_1 hW26 hF27 (rfl) ((congrFun (hFx.2 0 rfl) _)) (by omega) (by omega) (by omega) (by omega)
            · have _q := h20
              refine jx_hp (pc' := 58) (st' := [.long (38), .ref 66]) rfl rfl rfl rfl rfl rfl ?_
              refine jx_ld (pc' := 59) (l' := L) (st' := [.ref 66, .long (38), .ref 66]) rfl (jl_aloadn gL_0) ?_
              refine jr_get (pc' := 62) (i := 14) (v := .long (i64 (Gx 14))) rfl rfl (by decide) rfl rfl ?_
              obtain ⟨y28, ey28⟩ : ∃ q : Int64, q = i64 (Gx 14) := ⟨_, rfl⟩
              rw [← ey28]
              refine jx_ar (pc' := 63) (st' := .long ((38 : Int64) * (y28)) :: [.ref 66]) rfl rfl rfl rfl ?_
              obtain ⟨y29, ey29⟩ : ∃ q : Int64, q = (38 : Int64) * (y28) := ⟨_, rfl⟩
              rw [← ey29]
              refine jx_ld (pc' := 64) (l' := L) (st' := [.ref 66, .long (y29), .ref 66]) rfl (jl_aloadn gL_0) ?_
              refine jx_ld (pc' := 65) (l' := L) (st' := [.ref 66, .ref 66, .long (y29), .ref 66]) rfl (jl_aloadn gL_0) ?_
              refine jr_get (pc' := 68) (i := 10) (v := .int (i32 (at1))) rfl rfl (by decide) (rFv_eq (by decide) (show Gx 10 = at1 from (ex_at1))) rfl ?_
              refine jx_vr (pc' := 71) (as := [.int (i32 (at1))]) (st := [.long (y29), .ref 66]) rfl rfl rfl rfl ⟨rfl, rfl, Nat.le_of_ble_eq_true rfl⟩ rfl rfl (c_sign (dd := d) (hd := by omega) (hW := hWx) (k := at1) (ln := ln) (e_ln := show Gx 9 = ln from ((hFx.1 9 rfl).trans (e_ln))) (le := le) (e_le := show Ax 4 (ln).toNat = le from (congrFun (hFx.2 4 rfl) _).trans (e_le)) (tx := cur) (e_tx := show Ax 0 (at1).toNat = cur from (ex_cur))  (h_k := by omega)  (p_0 := by omega)) (fun o V' hq => ?_)
              obtain ⟨r30, rfl, rfl, b31, q32⟩ := hq
              refine .inr ⟨_, rfl, ?_⟩
              rcases q32 with ⟨a33, a34⟩ | ⟨a35, a36⟩
              · have _q : True := trivial
                refine jx_st (pc' := 74) (as := [.int (i32 (r30))]) (st := [.long (y29), .ref 66]) rfl rfl ⟨rfl, Nat.le_of_ble_eq_true rfl⟩ rfl rfl rfl (c_digit (dd := d) (hd := by omega) (c := r30)   (h_c := by omega)  ) (fun o V' hq => ?_)
                obtain ⟨r37, rfl, rfl, -⟩ := hq
                refine .inr ⟨_, rfl, ?_⟩
                refine jx_ar (pc' := 75) (st' := .long ((y29 : Int64) + (r37)) :: [.ref 66]) rfl rfl rfl rfl ?_
                obtain ⟨y39, ey39⟩ : ∃ q : Int64, q = (y29 : Int64) + (r37) := ⟨_, rfl⟩
                rw [← ey39]
                refine jx_go (tg := 82) rfl rfl ?_
                have rl40 := i64_rg (y39)
                refine jr_put (pc' := 85) (i := 14) (z := (y39 : Int64).toInt) rfl rfl (by decide) rfl rfl rfl rfl (congrArg Value.long (i64_of (y39))) rfl ?_
                have hW41 : Wk (uG Gx 14 ((y39 : Int64).toInt)) Ax := Wk_g hWx (show (-9223372036854775808 : Int) ≤ (y39 : Int64).toInt by omega) (show (y39 : Int64).toInt ≤ (9223372036854775807 : Int) by omega)
                have hF42 := Fr_g (z := (y39 : Int64).toInt) (i := 14) hFx (by decide)
                refine jx_inc (pc' := 88) (l' := jSto1 L 1 (.int (i32 ((n + (1)))))) (x := n) rfl gL_1 (by decide) rfl rfl ?_
                obtain ⟨L43, eL43⟩ : ∃ q, q = jSto1 L 1 (.int (i32 ((n + (1))))) := ⟨_, rfl⟩
                rw [← eL43]
                have gL43_0 : jGet L43 0 = some (.ref 66) := eL43 ▸ jg_ne (by decide) gL_0 rfl
                have gL43_1 : jGet L43 1 = some (.int (i32 ((n + (1))))) := eL43 ▸ jg_eq
                refine jx_ld (pc' := 89) (l' := L43) (st' := [.ref 66]) rfl (jl_aloadn gL43_0) ?_
                refine jx_ar (pc' := 90) (st' := [.ref 66, .ref 66]) rfl rfl rfl rfl ?_
                refine jr_get (pc' := 93) (i := 10) (v := .int (i32 (at1))) rfl rfl (by decide) (rFv_eq (by decide) (show (uG Gx 14 ((y39 : Int64).toInt)) 10 = at1 from (ex_at1))) rfl ?_
                refine jx_ar (pc' := 94) (st' := [.int (i32 (1)), .int (i32 (at1)), .ref 66]) rfl rfl rfl rfl ?_
                refine jx_add (pc' := 95) rfl rfl ?_
                refine jr_put (pc' := 98) (i := 10) (z := (at1 + 1)) rfl rfl (by decide) rfl rfl rfl rfl rfl rfl ?_
                have hW44 : Wk (uG (uG Gx 14 ((y39 : Int64).toInt)) 10 ((at1 + 1))) Ax := Wk_g hW41 (show (0 : Int) ≤ (at1 + 1) by omega) (show (at1 + 1) ≤ (3002 : Int) by omega)
                have hF45 := Fr_g (z := (at1 + 1)) (i := 10) hF42 (by decide)
                refine jx_go (tg := 7) rfl rfl ?_
                exact ih _ (by omega) L43 (uG (uG Gx 14 ((y39 : Int64).toInt)) 10 ((at1 + 1))) Ax ((n + (1))) ((at1 + 1)) (A 0 ((at1 + 1)).toNat) rfl gL43_0 gL43_1 hW44 hF45 (rfl) ((congrFun (hFx.2 0 rfl) _)) (by omega) (by omega) (by omega) (by omega)
              · have _q : True := trivial
                refine jx_st (pc' := 74) (as := [.int (i32 (r30))]) (st := [.long (y29), .ref 66]) rfl rfl ⟨rfl, Nat.le_of_ble_eq_true rfl⟩ rfl rfl rfl (c_digit (dd := d) (hd := by omega) (c := r30)   (h_c := by omega)  ) (fun o V' hq => ?_)
                obtain ⟨r46, rfl, rfl, -⟩ := hq
                refine .inr ⟨_, rfl, ?_⟩
                refine jx_ar (pc' := 75) (st' := .long ((y29 : Int64) + (r46)) :: [.ref 66]) rfl rfl rfl rfl ?_
                obtain ⟨y48, ey48⟩ : ∃ q : Int64, q = (y29 : Int64) + (r46) := ⟨_, rfl⟩
                rw [← ey48]
                refine jx_go (tg := 82) rfl rfl ?_
                have rl49 := i64_rg (y48)
                refine jr_put (pc' := 85) (i := 14) (z := (y48 : Int64).toInt) rfl rfl (by decide) rfl rfl rfl rfl (congrArg Value.long (i64_of (y48))) rfl ?_
                have hW50 : Wk (uG Gx 14 ((y48 : Int64).toInt)) Ax := Wk_g hWx (show (-9223372036854775808 : Int) ≤ (y48 : Int64).toInt by omega) (show (y48 : Int64).toInt ≤ (9223372036854775807 : Int) by omega)
                have hF51 := Fr_g (z := (y48 : Int64).toInt) (i := 14) hFx (by decide)
                refine jx_inc (pc' := 88) (l' := jSto1 L 1 (.int (i32 ((n + (1)))))) (x := n) rfl gL_1 (by decide) rfl rfl ?_
                obtain ⟨L52, eL52⟩ : ∃ q, q = jSto1 L 1 (.int (i32 ((n + (1))))) := ⟨_, rfl⟩
                rw [← eL52]
                have gL52_0 : jGet L52 0 = some (.ref 66) := eL52 ▸ jg_ne (by decide) gL_0 rfl
                have gL52_1 : jGet L52 1 = some (.int (i32 ((n + (1))))) := eL52 ▸ jg_eq
                refine jx_ld (pc' := 89) (l' := L52) (st' := [.ref 66]) rfl (jl_aloadn gL52_0) ?_
                refine jx_ar (pc' := 90) (st' := [.ref 66, .ref 66]) rfl rfl rfl rfl ?_
                refine jr_get (pc' := 93) (i := 10) (v := .int (i32 (at1))) rfl rfl (by decide) (rFv_eq (by decide) (show (uG Gx 14 ((y48 : Int64).toInt)) 10 = at1 from (ex_at1))) rfl ?_
                refine jx_ar (pc' := 94) (st' := [.int (i32 (1)), .int (i32 (at1)), .ref 66]) rfl rfl rfl rfl ?_
                refine jx_add (pc' := 95) rfl rfl ?_
                refine jr_put (pc' := 98) (i := 10) (z := (at1 + 1)) rfl rfl (by decide) rfl rfl rfl rfl rfl rfl ?_
                have hW53 : Wk (uG (uG Gx 14 ((y48 : Int64).toInt)) 10 ((at1 + 1))) Ax := Wk_g hW50 (show (0 : Int) ≤ (at1 + 1) by omega) (show (at1 + 1) ≤ (3002 : Int) by omega)
                have hF54 := Fr_g (z := (at1 + 1)) (i := 10) hF51 (by decide)
                refine jx_go (tg := 7) rfl rfl ?_
                exact ih _ (by omega) L52 (uG (uG Gx 14 ((y48 : Int64).toInt)) 10 ((at1 + 1))) Ax ((n + (1))) ((at1 + 1)) (A 0 ((at1 + 1)).toNat) rfl gL52_0 gL52_1 hW53 hF54 (rfl) ((congrFun (hFx.2 0 rfl) _)) (by omega) (by omega) (by omega) (by omega)
          · have _q := h19
            exact absurd h19 (by omega)
        · have _q : True := trivial
          refine jx_if_ne (pc' := 21) (tg := 48) rfl rfl rfl (by omega) (by omega) (fun h55 => ?_) (fun h55 => ?_)
          · have _q := h55
            exact absurd h55 (by omega)
          · have _q := h55
            refine jx_ld (pc' := 22) (l' := L) (st' := [.ref 66]) rfl (jl_aloadn gL_0) ?_
            refine jx_ld (pc' := 23) (l' := L) (st' := [.ref 66, .ref 66]) rfl (jl_aloadn gL_0) ?_
            refine jr_get (pc' := 26) (i := 10) (v := .int (i32 (at1))) rfl rfl (by decide) (rFv_eq (by decide) (show Gx 10 = at1 from (ex_at1))) rfl ?_
            refine jx_vr (pc' := 29) (as := [.int (i32 (at1))]) (st := []) rfl rfl rfl rfl ⟨rfl, rfl, Nat.le_of_ble_eq_true rfl⟩ rfl rfl (c_sign (dd := d) (hd := by omega) (hW := hWx) (k := at1) (ln := ln) (e_ln := show Gx 9 = ln from ((hFx.1 9 rfl).trans (e_ln))) (le := le) (e_le := show Ax 4 (ln).toNat = le from (congrFun (hFx.2 4 rfl) _).trans (e_le)) (tx := cur) (e_tx := show Ax 0 (at1).toNat = cur from (ex_cur))  (h_k := by omega)  (p_0 := by omega)) (fun o V' hq => ?_)
            obtain ⟨r56, rfl, rfl, b57, q58⟩ := hq
            refine .inr ⟨_, rfl, ?_⟩
            rcases q58 with ⟨a59, a60⟩ | ⟨a61, a62⟩
            · have _q : True := trivial
              refine jx_st (pc' := 32) (as := [.int (i32 (r56))]) (st := []) rfl rfl ⟨rfl, Nat.le_of_ble_eq_true rfl⟩ rfl rfl rfl (c_isDigit (dd := d) (hd := by omega) (v := r56)   (h_v := by omega)  ) (fun o V' hq => ?_)
              obtain ⟨r63, rfl, rfl, b64, q65⟩ := hq
              refine .inr ⟨_, rfl, ?_⟩
              rcases q65 with ⟨rfl, a66, a67⟩ | ⟨rfl, a68⟩
              · have _q : True := trivial
                refine jx_if_ne (pc' := 35) (tg := 48) rfl rfl rfl (by omega) (by omega) (fun h69 => ?_) (fun h69 => ?_)
                · have _q := h69
                  refine jx_ld (pc' := 49) (l' := L) (st' := [.ref 66]) rfl (jl_aloadn gL_0) ?_
                  refine jx_ld (pc' := 50) (l' := L) (st' := [.int (i32 (n)), .ref 66]) rfl (jl_iloadn gL_1) ?_
                  refine jx_ar (pc' := 52) (st' := [.int (i32 (10)), .int (i32 (n)), .ref 66]) rfl rfl rfl rfl ?_
                  refine jx_icmp_ge (pc' := 55) (tg := 78) rfl rfl rfl (by omega) (by omega) (by omega) (by omega) (fun h70 => ?_) (fun h70 => ?_)
                  · have _q := h70
                    refine jx_ld (pc' := 79) (l' := L) (st' := [.ref 66, .ref 66]) rfl (jl_aloadn gL_0) ?_
                    refine jr_get (pc' := 82) (i := 14) (v := .long (i64 (Gx 14))) rfl rfl (by decide) rfl rfl ?_
                    obtain ⟨y71, ey71⟩ : ∃ q : Int64, q = i64 (Gx 14) := ⟨_, rfl⟩
                    rw [← ey71]
                    have rl72 := i64_rg (y71)
                    refine jr_put (pc' := 85) (i := 14) (z := (y71 : Int64).toInt) rfl rfl (by decide) rfl rfl rfl rfl (congrArg Value.long (i64_of (y71))) rfl ?_
                    have hW73 : Wk (uG Gx 14 ((y71 : Int64).toInt)) Ax := Wk_g hWx (show (-9223372036854775808 : Int) ≤ (y71 : Int64).toInt by omega) (show (y71 : Int64).toInt ≤ (9223372036854775807 : Int) by omega)
                    have hF74 := Fr_g (z := (y71 : Int64).toInt) (i := 14) hFx (by decide)
                    refine jx_inc (pc' := 88) (l' := jSto1 L 1 (.int (i32 ((n + (1)))))) (x := n) rfl gL_1 (by decide) rfl rfl ?_
                    obtain ⟨L75, eL75⟩ : ∃ q, q = jSto1 L 1 (.int (i32 ((n + (1))))) := ⟨_, rfl⟩
                    rw [← eL75]
                    have gL75_0 : jGet L75 0 = some (.ref 66) := eL75 ▸ jg_ne (by decide) gL_0 rfl
                    have gL75_1 : jGet L75 1 = some (.int (i32 ((n + (1))))) := eL75 ▸ jg_eq
                    refine jx_ld (pc' := 89) (l' := L75) (st' := [.ref 66]) rfl (jl_aloadn gL75_0) ?_
                    refine jx_ar (pc' := 90) (st' := [.ref 66, .ref 66]) rfl rfl rfl rfl ?_
                    refine jr_get (pc' := 93) (i := 10) (v := .int (i32 (at1))) rfl rfl (by decide) (rFv_eq (by decide) (show (uG Gx 14 ((y71 : Int64).toInt)) 10 = at1 from (ex_at1))) rfl ?_
                    refine jx_ar (pc' := 94) (st' := [.int (i32 (1)), .int (i32 (at1)), .ref 66]) rfl rfl rfl rfl ?_
                    refine jx_add (pc' := 95) rfl rfl ?_
                    refine jr_put (pc' := 98) (i := 10) (z := (at1 + 1)) rfl rfl (by decide) rfl rfl rfl rfl rfl rfl ?_
                    have hW76 : Wk (uG (uG Gx 14 ((y71 : Int64).toInt)) 10 ((at1 + 1))) Ax := Wk_g hW73 (show (0 : Int) ≤ (at1 + 1) by omega) (show (at1 + 1) ≤ (3002 : Int) by omega)
                    have hF77 := Fr_g (z := (at1 + 1)) (i := 10) hF74 (by decide)
                    refine jx_go (tg := 7) rfl rfl ?_
                    exact ih _ (by omega) L75 (uG (uG Gx 14 ((y71 : Int64).toInt)) 10 ((at1 + 1))) Ax ((n + (1))) ((at1 + 1)) (A 0 ((at1 + 1)).toNat) rfl gL75_0 gL75_1 hW76 hF77 (rfl) ((congrFun (hFx.2 0 rfl) _)) (by omega) (by omega) (by omega) (by omega)
                  · have _q := h70
                    refine jx_hp (pc' := 58) (st' := [.long (38), .ref 66]) rfl rfl rfl rfl rfl rfl ?_
                    refine jx_ld (pc' := 59) (l' := L) (st' := [.ref 66, .long (38), .ref 66]) rfl (jl_aloadn gL_0) ?_
                    refine jr_get (pc' := 62) (i := 14) (v := .long (i64 (Gx 14))) rfl rfl (by decide) rfl rfl ?_
                    obtain ⟨y78, ey78⟩ : ∃ q : Int64, q = i64 (Gx 14) := ⟨_, rfl⟩
                    rw [← ey78]
                    refine jx_ar (pc' := 63) (st' := .long ((38 : Int64) * (y78)) :: [.ref 66]) rfl rfl rfl rfl ?_
                    obtain ⟨y79, ey79⟩ : ∃ q : Int64, q = (38 : Int64) * (y78) := ⟨_, rfl⟩
                    rw [← ey79]
                    refine jx_ld (pc' := 64) (l' := L) (st' := [.ref 66, .long (y79), .ref 66]) rfl (jl_aloadn gL_0) ?_
                    refine jx_ld (pc' := 65) (l' := L) (st' := [.ref 66, .ref 66, .long (y79), .ref 66]) rfl (jl_aloadn gL_0) ?_
                    refine jr_get (pc' := 68) (i := 10) (v := .int (i32 (at1))) rfl rfl (by decide) (rFv_eq (by decide) (show Gx 10 = at1 from (ex_at1))) rfl ?_
                    refine jx_vr (pc' := 71) (as := [.int (i32 (at1))]) (st := [.long (y79), .ref 66]) rfl rfl rfl rfl ⟨rfl, rfl, Nat.le_of_ble_eq_true rfl⟩ rfl rfl (c_sign (dd := d) (hd := by omega) (hW := hWx) (k := at1) (ln := ln) (e_ln := show Gx 9 = ln from ((hFx.1 9 rfl).trans (e_ln))) (le := le) (e_le := show Ax 4 (ln).toNat = le from (congrFun (hFx.2 4 rfl) _).trans (e_le)) (tx := cur) (e_tx := show Ax 0 (at1).toNat = cur from (ex_cur))  (h_k := by omega)  (p_0 := by omega)) (fun o V' hq => ?_)
                    obtain ⟨r80, rfl, rfl, b81, q82⟩ := hq
                    refine .inr ⟨_, rfl, ?_⟩
                    rcases q82 with ⟨a83, a84⟩ | ⟨a85, a86⟩
                    · have _q : True := trivial
                      refine jx_st (pc' := 74) (as := [.int (i32 (r80))]) (st := [.long (y79), .ref 66]) rfl rfl ⟨rfl, Nat.le_of_ble_eq_true rfl⟩ rfl rfl rfl (c_digit (dd := d) (hd := by omega) (c := r80)   (h_c := by omega)  ) (fun o V' hq => ?_)
                      obtain ⟨r87, rfl, rfl, -⟩ := hq
                      refine .inr ⟨_, rfl, ?_⟩
                      refine jx_ar (pc' := 75) (st' := .long ((y79 : Int64) + (r87)) :: [.ref 66]) rfl rfl rfl rfl ?_
                      obtain ⟨y89, ey89⟩ : ∃ q : Int64, q = (y79 : Int64) + (r87) := ⟨_, rfl⟩
                      rw [← ey89]
                      refine jx_go (tg := 82) rfl rfl ?_
                      have rl90 := i64_rg (y89)
                      refine jr_put (pc' := 85) (i := 14) (z := (y89 : Int64).toInt) rfl rfl (by decide) rfl rfl rfl rfl (congrArg Value.long (i64_of (y89))) rfl ?_
                      have hW91 : Wk (uG Gx 14 ((y89 : Int64).toInt)) Ax := Wk_g hWx (show (-9223372036854775808 : Int) ≤ (y89 : Int64).toInt by omega) (show (y89 : Int64).toInt ≤ (9223372036854775807 : Int) by omega)
                      have hF92 := Fr_g (z := (y89 : Int64).toInt) (i := 14) hFx (by decide)
                      refine jx_inc (pc' := 88) (l' := jSto1 L 1 (.int (i32 ((n + (1)))))) (x := n) rfl gL_1 (by decide) rfl rfl ?_
                      obtain ⟨L93, eL93⟩ : ∃ q, q = jSto1 L 1 (.int (i32 ((n + (1))))) := ⟨_, rfl⟩
                      rw [← eL93]
                      have gL93_0 : jGet L93 0 = some (.ref 66) := eL93 ▸ jg_ne (by decide) gL_0 rfl
                      have gL93_1 : jGet L93 1 = some (.int (i32 ((n + (1))))) := eL93 ▸ jg_eq
                      refine jx_ld (pc' := 89) (l' := L93) (st' := [.ref 66]) rfl (jl_aloadn gL93_0) ?_
                      refine jx_ar (pc' := 90) (st' := [.ref 66, .ref 66]) rfl rfl rfl rfl ?_
                      refine jr_get (pc' := 93) (i := 10) (v := .int (i32 (at1))) rfl rfl (by decide) (rFv_eq (by decide) (show (uG Gx 14 ((y89 : Int64).toInt)) 10 = at1 from (ex_at1))) rfl ?_
                      refine jx_ar (pc' := 94) (st' := [.int (i32 (1)), .int (i32 (at1)), .ref 66]) rfl rfl rfl rfl ?_
                      refine jx_add (pc' := 95) rfl rfl ?_
                      refine jr_put (pc' := 98) (i := 10) (z := (at1 + 1)) rfl rfl (by decide) rfl rfl rfl rfl rfl rfl ?_
                      have hW94 : Wk (uG (uG Gx 14 ((y89 : Int64).toInt)) 10 ((at1 + 1))) Ax := Wk_g hW91 (show (0 : Int) ≤ (at1 + 1) by omega) (show (at1 + 1) ≤ (3002 : Int) by omega)
                      have hF95 := Fr_g (z := (at1 + 1)) (i := 10) hF92 (by decide)
                      refine jx_go (tg := 7) rfl rfl ?_
                      exact ih _ (by omega) L93 (uG (uG Gx 14 ((y89 : Int64).toInt)) 10 ((at1 + 1))) Ax ((n + (1))) ((at1 + 1)) (A 0 ((at1 + 1)).toNat) rfl gL93_0 gL93_1 hW94 hF95 (rfl) ((congrFun (hFx.2 0 rfl) _)) (by omega) (by omega) (by omega) (by omega)
                    · have _q : True := trivial
                      refine jx_st (pc' := 74) (as := [.int (i32 (r80))]) (st := [.long (y79), .ref 66]) rfl rfl ⟨rfl, Nat.le_of_ble_eq_true rfl⟩ rfl rfl rfl (c_digit (dd := d) (hd := by omega) (c := r80)   (h_c := by omega)  ) (fun o V' hq => ?_)
                      obtain ⟨r96, rfl, rfl, -⟩ := hq
                      refine .inr ⟨_, rfl, ?_⟩
                      refine jx_ar (pc' := 75) (st' := .long ((y79 : Int64) + (r96)) :: [.ref 66]) rfl rfl rfl rfl ?_
                      obtain ⟨y98, ey98⟩ : ∃ q : Int64, q = (y79 : Int64) + (r96) := ⟨_, rfl⟩
                      rw [← ey98]
                      refine jx_go (tg := 82) rfl rfl ?_
                      have rl99 := i64_rg (y98)
                      refine jr_put (pc' := 85) (i := 14) (z := (y98 : Int64).toInt) rfl rfl (by decide) rfl rfl rfl rfl (congrArg Value.long (i64_of (y98))) rfl ?_
                      have hW100 : Wk (uG Gx 14 ((y98 : Int64).toInt)) Ax := Wk_g hWx (show (-9223372036854775808 : Int) ≤ (y98 : Int64).toInt by omega) (show (y98 : Int64).toInt ≤ (9223372036854775807 : Int) by omega)
                      have hF101 := Fr_g (z := (y98 : Int64).toInt) (i := 14) hFx (by decide)
                      refine jx_inc (pc' := 88) (l' := jSto1 L 1 (.int (i32 ((n + (1)))))) (x := n) rfl gL_1 (by decide) rfl rfl ?_
                      obtain ⟨L102, eL102⟩ : ∃ q, q = jSto1 L 1 (.int (i32 ((n + (1))))) := ⟨_, rfl⟩
                      rw [← eL102]
                      have gL102_0 : jGet L102 0 = some (.ref 66) := eL102 ▸ jg_ne (by decide) gL_0 rfl
                      have gL102_1 : jGet L102 1 = some (.int (i32 ((n + (1))))) := eL102 ▸ jg_eq
                      refine jx_ld (pc' := 89) (l' := L102) (st' := [.ref 66]) rfl (jl_aloadn gL102_0) ?_
                      refine jx_ar (pc' := 90) (st' := [.ref 66, .ref 66]) rfl rfl rfl rfl ?_
                      refine jr_get (pc' := 93) (i := 10) (v := .int (i32 (at1))) rfl rfl (by decide) (rFv_eq (by decide) (show (uG Gx 14 ((y98 : Int64).toInt)) 10 = at1 from (ex_at1))) rfl ?_
                      refine jx_ar (pc' := 94) (st' := [.int (i32 (1)), .int (i32 (at1)), .ref 66]) rfl rfl rfl rfl ?_
                      refine jx_add (pc' := 95) rfl rfl ?_
                      refine jr_put (pc' := 98) (i := 10) (z := (at1 + 1)) rfl rfl (by decide) rfl rfl rfl rfl rfl rfl ?_
                      have hW103 : Wk (uG (uG Gx 14 ((y98 : Int64).toInt)) 10 ((at1 + 1))) Ax := Wk_g hW100 (show (0 : Int) ≤ (at1 + 1) by omega) (show (at1 + 1) ≤ (3002 : Int) by omega)
                      have hF104 := Fr_g (z := (at1 + 1)) (i := 10) hF101 (by decide)
                      refine jx_go (tg := 7) rfl rfl ?_
                      exact ih _ (by omega) L102 (uG (uG Gx 14 ((y98 : Int64).toInt)) 10 ((at1 + 1))) Ax ((n + (1))) ((at1 + 1)) (A 0 ((at1 + 1)).toNat) rfl gL102_0 gL102_1 hW103 hF104 (rfl) ((congrFun (hFx.2 0 rfl) _)) (by omega) (by omega) (by omega) (by omega)
                · have _q := h69
                  exact absurd h69 (by omega)
              · have _q : True := trivial
                refine jx_if_ne (pc' := 35) (tg := 48) rfl rfl rfl (by omega) (by omega) (fun h105 => ?_) (fun h105 => ?_)
                · have _q := h105
                  exact absurd h105 (by omega)
                · have _q := h105
                  refine jx_ld (pc' := 36) (l' := L) (st' := [.ref 66]) rfl (jl_aloadn gL_0) ?_
                  refine jx_ld (pc' := 37) (l' := L) (st' := [.ref 66, .ref 66]) rfl (jl_aloadn gL_0) ?_
                  refine jr_get (pc' := 40) (i := 10) (v := .int (i32 (at1))) rfl rfl (by decide) (rFv_eq (by decide) (show Gx 10 = at1 from (ex_at1))) rfl ?_
                  refine jx_vr (pc' := 43) (as := [.int (i32 (at1))]) (st := []) rfl rfl rfl rfl ⟨rfl, rfl, Nat.le_of_ble_eq_true rfl⟩ rfl rfl (c_sign (dd := d) (hd := by omega) (hW := hWx) (k := at1) (ln := ln) (e_ln := show Gx 9 = ln from ((hFx.1 9 rfl).trans (e_ln))) (le := le) (e_le := show Ax 4 (ln).toNat = le from (congrFun (hFx.2 4 rfl) _).trans (e_le)) (tx := cur) (e_tx := show Ax 0 (at1).toNat = cur from (ex_cur))  (h_k := by omega)  (p_0 := by omega)) (fun o V' hq => ?_)
                  obtain ⟨r106, rfl, rfl, b107, q108⟩ := hq
                  refine .inr ⟨_, rfl, ?_⟩
                  rcases q108 with ⟨a109, a110⟩ | ⟨a111, a112⟩
                  · have _q : True := trivial
                    refine jx_ar (pc' := 45) (st' := [.int (i32 (46)), .int (i32 (r106))]) rfl rfl rfl rfl ?_
                    refine jx_icmp_ne (pc' := 48) (tg := 101) rfl rfl rfl (by omega) (by omega) (by omega) (by omega) (fun h113 => ?_) (fun h113 => ?_)
                    · have _q := h113
                      refine jx_ld (pc' := 102) (l' := L) (st' := [.ref 66]) rfl (jl_aloadn gL_0) ?_
                      refine jx_ld (pc' := 103) (l' := L) (st' := [.int (i32 (n)), .ref 66]) rfl (jl_iloadn gL_1) ?_
                      refine jx_ar (pc' := 105) (st' := [.int (i32 (10)), .int (i32 (n)), .ref 66]) rfl rfl rfl rfl ?_
                      refine jx_icmp_le (pc' := 108) (tg := 112) rfl rfl rfl (by omega) (by omega) (by omega) (by omega) (fun h114 => ?_) (fun h114 => ?_)
                      · have _q := h114
                        refine jx_ar (pc' := 113) (st' := [.int (i32 (1)), .ref 66]) rfl rfl rfl rfl ?_
                        refine jr_put (pc' := 116) (i := 11) (z := 1) rfl rfl (by decide) rfl rfl rfl rfl rfl rfl ?_
                        have hW115 : Wk (uG Gx 11 (1)) Ax := Wk_g hWx (show (0 : Int) ≤ 1 by omega) (show 1 ≤ (5 : Int) by omega)
                        have hF116 := Fr_g (z := 1) (i := 11) hFx (by decide)
                        refine jx_rt (v := none) rfl rfl rfl rfl rfl rfl ?_
                        exact ⟨_, _, at1, 1, rfl, rfl, hW115, hF116, (ex_at1), rfl, by omega, by omega, by omega, trivial⟩
                      · have _q := h114
                        refine jx_ar (pc' := 109) (st' := [.int (i32 (5)), .ref 66]) rfl rfl rfl rfl ?_
                        refine jx_go (tg := 113) rfl rfl ?_
                        refine jr_put (pc' := 116) (i := 11) (z := 5) rfl rfl (by decide) rfl rfl rfl rfl rfl rfl ?_
                        have hW117 : Wk (uG Gx 11 (5)) Ax := Wk_g hWx (show (0 : Int) ≤ 5 by omega) (show 5 ≤ (5 : Int) by omega)
                        have hF118 := Fr_g (z := 5) (i := 11) hFx (by decide)
                        refine jx_rt (v := none) rfl rfl rfl rfl rfl rfl ?_
                        exact ⟨_, _, at1, 5, rfl, rfl, hW117, hF118, (ex_at1), rfl, by omega, by omega, by omega, trivial⟩
                    · have _q := h113
                      refine jx_ld (pc' := 49) (l' := L) (st' := [.ref 66]) rfl (jl_aloadn gL_0) ?_
                      refine jx_ld (pc' := 50) (l' := L) (st' := [.int (i32 (n)), .ref 66]) rfl (jl_iloadn gL_1) ?_
                      refine jx_ar (pc' := 52) (st' := [.int (i32 (10)), .int (i32 (n)), .ref 66]) rfl rfl rfl rfl ?_
                      refine jx_icmp_ge (pc' := 55) (tg := 78) rfl rfl rfl (by omega) (by omega) (by omega) (by omega) (fun h119 => ?_) (fun h119 => ?_)
                      · have _q := h119
                        refine jx_ld (pc' := 79) (l' := L) (st' := [.ref 66, .ref 66]) rfl (jl_aloadn gL_0) ?_
                        refine jr_get (pc' := 82) (i := 14) (v := .long (i64 (Gx 14))) rfl rfl (by decide) rfl rfl ?_
                        obtain ⟨y120, ey120⟩ : ∃ q : Int64, q = i64 (Gx 14) := ⟨_, rfl⟩
                        rw [← ey120]
                        have rl121 := i64_rg (y120)
                        refine jr_put (pc' := 85) (i := 14) (z := (y120 : Int64).toInt) rfl rfl (by decide) rfl rfl rfl rfl (congrArg Value.long (i64_of (y120))) rfl ?_
                        have hW122 : Wk (uG Gx 14 ((y120 : Int64).toInt)) Ax := Wk_g hWx (show (-9223372036854775808 : Int) ≤ (y120 : Int64).toInt by omega) (show (y120 : Int64).toInt ≤ (9223372036854775807 : Int) by omega)
                        have hF123 := Fr_g (z := (y120 : Int64).toInt) (i := 14) hFx (by decide)
                        refine jx_inc (pc' := 88) (l' := jSto1 L 1 (.int (i32 ((n + (1)))))) (x := n) rfl gL_1 (by decide) rfl rfl ?_
                        obtain ⟨L124, eL124⟩ : ∃ q, q = jSto1 L 1 (.int (i32 ((n + (1))))) := ⟨_, rfl⟩
                        rw [← eL124]
                        have gL124_0 : jGet L124 0 = some (.ref 66) := eL124 ▸ jg_ne (by decide) gL_0 rfl
                        have gL124_1 : jGet L124 1 = some (.int (i32 ((n + (1))))) := eL124 ▸ jg_eq
                        refine jx_ld (pc' := 89) (l' := L124) (st' := [.ref 66]) rfl (jl_aloadn gL124_0) ?_
                        refine jx_ar (pc' := 90) (st' := [.ref 66, .ref 66]) rfl rfl rfl rfl ?_
                        refine jr_get (pc' := 93) (i := 10) (v := .int (i32 (at1))) rfl rfl (by decide) (rFv_eq (by decide) (show (uG Gx 14 ((y120 : Int64).toInt)) 10 = at1 from (ex_at1))) rfl ?_
                        refine jx_ar (pc' := 94) (st' := [.int (i32 (1)), .int (i32 (at1)), .ref 66]) rfl rfl rfl rfl ?_
                        refine jx_add (pc' := 95) rfl rfl ?_
                        refine jr_put (pc' := 98) (i := 10) (z := (at1 + 1)) rfl rfl (by decide) rfl rfl rfl rfl rfl rfl ?_
                        have hW125 : Wk (uG (uG Gx 14 ((y120 : Int64).toInt)) 10 ((at1 + 1))) Ax := Wk_g hW122 (show (0 : Int) ≤ (at1 + 1) by omega) (show (at1 + 1) ≤ (3002 : Int) by omega)
                        have hF126 := Fr_g (z := (at1 + 1)) (i := 10) hF123 (by decide)
                        refine jx_go (tg := 7) rfl rfl ?_
                        exact ih _ (by omega) L124 (uG (uG Gx 14 ((y120 : Int64).toInt)) 10 ((at1 + 1))) Ax ((n + (1))) ((at1 + 1)) (A 0 ((at1 + 1)).toNat) rfl gL124_0 gL124_1 hW125 hF126 (rfl) ((congrFun (hFx.2 0 rfl) _)) (by omega) (by omega) (by omega) (by omega)
                      · have _q := h119
                        refine jx_hp (pc' := 58) (st' := [.long (38), .ref 66]) rfl rfl rfl rfl rfl rfl ?_
                        refine jx_ld (pc' := 59) (l' := L) (st' := [.ref 66, .long (38), .ref 66]) rfl (jl_aloadn gL_0) ?_
                        refine jr_get (pc' := 62) (i := 14) (v := .long (i64 (Gx 14))) rfl rfl (by decide) rfl rfl ?_
                        obtain ⟨y127, ey127⟩ : ∃ q : Int64, q = i64 (Gx 14) := ⟨_, rfl⟩
                        rw [← ey127]
                        refine jx_ar (pc' := 63) (st' := .long ((38 : Int64) * (y127)) :: [.ref 66]) rfl rfl rfl rfl ?_
                        obtain ⟨y128, ey128⟩ : ∃ q : Int64, q = (38 : Int64) * (y127) := ⟨_, rfl⟩
                        rw [← ey128]
                        refine jx_ld (pc' := 64) (l' := L) (st' := [.ref 66, .long (y128), .ref 66]) rfl (jl_aloadn gL_0) ?_
                        refine jx_ld (pc' := 65) (l' := L) (st' := [.ref 66, .ref 66, .long (y128), .ref 66]) rfl (jl_aloadn gL_0) ?_
                        refine jr_get (pc' := 68) (i := 10) (v := .int (i32 (at1))) rfl rfl (by decide) (rFv_eq (by decide) (show Gx 10 = at1 from (ex_at1))) rfl ?_
                        refine jx_vr (pc' := 71) (as := [.int (i32 (at1))]) (st := [.long (y128), .ref 66]) rfl rfl rfl rfl ⟨rfl, rfl, Nat.le_of_ble_eq_true rfl⟩ rfl rfl (c_sign (dd := d) (hd := by omega) (hW := hWx) (k := at1) (ln := ln) (e_ln := show Gx 9 = ln from ((hFx.1 9 rfl).trans (e_ln))) (le := le) (e_le := show Ax 4 (ln).toNat = le from (congrFun (hFx.2 4 rfl) _).trans (e_le)) (tx := cur) (e_tx := show Ax 0 (at1).toNat = cur from (ex_cur))  (h_k := by omega)  (p_0 := by omega)) (fun o V' hq => ?_)
                        obtain ⟨r129, rfl, rfl, b130, q131⟩ := hq
                        refine .inr ⟨_, rfl, ?_⟩
                        rcases q131 with ⟨a132, a133⟩ | ⟨a134, a135⟩
                        · have _q : True := trivial
                          refine jx_st (pc' := 74) (as := [.int (i32 (r129))]) (st := [.long (y128), .ref 66]) rfl rfl ⟨rfl, Nat.le_of_ble_eq_true rfl⟩ rfl rfl rfl (c_digit (dd := d) (hd := by omega) (c := r129)   (h_c := by omega)  ) (fun o V' hq => ?_)
                          obtain ⟨r136, rfl, rfl, -⟩ := hq
                          refine .inr ⟨_, rfl, ?_⟩
                          refine jx_ar (pc' := 75) (st' := .long ((y128 : Int64) + (r136)) :: [.ref 66]) rfl rfl rfl rfl ?_
                          obtain ⟨y138, ey138⟩ : ∃ q : Int64, q = (y128 : Int64) + (r136) := ⟨_, rfl⟩
                          rw [← ey138]
                          refine jx_go (tg := 82) rfl rfl ?_
                          have rl139 := i64_rg (y138)
                          refine jr_put (pc' := 85) (i := 14) (z := (y138 : Int64).toInt) rfl rfl (by decide) rfl rfl rfl rfl (congrArg Value.long (i64_of (y138))) rfl ?_
                          have hW140 : Wk (uG Gx 14 ((y138 : Int64).toInt)) Ax := Wk_g hWx (show (-9223372036854775808 : Int) ≤ (y138 : Int64).toInt by omega) (show (y138 : Int64).toInt ≤ (9223372036854775807 : Int) by omega)
                          have hF141 := Fr_g (z := (y138 : Int64).toInt) (i := 14) hFx (by decide)
                          refine jx_inc (pc' := 88) (l' := jSto1 L 1 (.int (i32 ((n + (1)))))) (x := n) rfl gL_1 (by decide) rfl rfl ?_
                          obtain ⟨L142, eL142⟩ : ∃ q, q = jSto1 L 1 (.int (i32 ((n + (1))))) := ⟨_, rfl⟩
                          rw [← eL142]
                          have gL142_0 : jGet L142 0 = some (.ref 66) := eL142 ▸ jg_ne (by decide) gL_0 rfl
                          have gL142_1 : jGet L142 1 = some (.int (i32 ((n + (1))))) := eL142 ▸ jg_eq
                          refine jx_ld (pc' := 89) (l' := L142) (st' := [.ref 66]) rfl (jl_aloadn gL142_0) ?_
                          refine jx_ar (pc' := 90) (st' := [.ref 66, .ref 66]) rfl rfl rfl rfl ?_
                          refine jr_get (pc' := 93) (i := 10) (v := .int (i32 (at1))) rfl rfl (by decide) (rFv_eq (by decide) (show (uG Gx 14 ((y138 : Int64).toInt)) 10 = at1 from (ex_at1))) rfl ?_
                          refine jx_ar (pc' := 94) (st' := [.int (i32 (1)), .int (i32 (at1)), .ref 66]) rfl rfl rfl rfl ?_
                          refine jx_add (pc' := 95) rfl rfl ?_
                          refine jr_put (pc' := 98) (i := 10) (z := (at1 + 1)) rfl rfl (by decide) rfl rfl rfl rfl rfl rfl ?_
                          have hW143 : Wk (uG (uG Gx 14 ((y138 : Int64).toInt)) 10 ((at1 + 1))) Ax := Wk_g hW140 (show (0 : Int) ≤ (at1 + 1) by omega) (show (at1 + 1) ≤ (3002 : Int) by omega)
                          have hF144 := Fr_g (z := (at1 + 1)) (i := 10) hF141 (by decide)
                          refine jx_go (tg := 7) rfl rfl ?_
                          exact ih _ (by omega) L142 (uG (uG Gx 14 ((y138 : Int64).toInt)) 10 ((at1 + 1))) Ax ((n + (1))) ((at1 + 1)) (A 0 ((at1 + 1)).toNat) rfl gL142_0 gL142_1 hW143 hF144 (rfl) ((congrFun (hFx.2 0 rfl) _)) (by omega) (by omega) (by omega) (by omega)
                        · have _q : True := trivial
                          refine jx_st (pc' := 74) (as := [.int (i32 (r129))]) (st := [.long (y128), .ref 66]) rfl rfl ⟨rfl, Nat.le_of_ble_eq_true rfl⟩ rfl rfl rfl (c_digit (dd := d) (hd := by omega) (c := r129)   (h_c := by omega)  ) (fun o V' hq => ?_)
                          obtain ⟨r145, rfl, rfl, -⟩ := hq
                          refine .inr ⟨_, rfl, ?_⟩
                          refine jx_ar (pc' := 75) (st' := .long ((y128 : Int64) + (r145)) :: [.ref 66]) rfl rfl rfl rfl ?_
                          obtain ⟨y147, ey147⟩ : ∃ q : Int64, q = (y128 : Int64) + (r145) := ⟨_, rfl⟩
                          rw [← ey147]
                          refine jx_go (tg := 82) rfl rfl ?_
                          have rl148 := i64_rg (y147)
                          refine jr_put (pc' := 85) (i := 14) (z := (y147 : Int64).toInt) rfl rfl (by decide) rfl rfl rfl rfl (congrArg Value.long (i64_of (y147))) rfl ?_
                          have hW149 : Wk (uG Gx 14 ((y147 : Int64).toInt)) Ax := Wk_g hWx (show (-9223372036854775808 : Int) ≤ (y147 : Int64).toInt by omega) (show (y147 : Int64).toInt ≤ (9223372036854775807 : Int) by omega)
                          have hF150 := Fr_g (z := (y147 : Int64).toInt) (i := 14) hFx (by decide)
                          refine jx_inc (pc' := 88) (l' := jSto1 L 1 (.int (i32 ((n + (1)))))) (x := n) rfl gL_1 (by decide) rfl rfl ?_
                          obtain ⟨L151, eL151⟩ : ∃ q, q = jSto1 L 1 (.int (i32 ((n + (1))))) := ⟨_, rfl⟩
                          rw [← eL151]
                          have gL151_0 : jGet L151 0 = some (.ref 66) := eL151 ▸ jg_ne (by decide) gL_0 rfl
                          have gL151_1 : jGet L151 1 = some (.int (i32 ((n + (1))))) := eL151 ▸ jg_eq
                          refine jx_ld (pc' := 89) (l' := L151) (st' := [.ref 66]) rfl (jl_aloadn gL151_0) ?_
                          refine jx_ar (pc' := 90) (st' := [.ref 66, .ref 66]) rfl rfl rfl rfl ?_
                          refine jr_get (pc' := 93) (i := 10) (v := .int (i32 (at1))) rfl rfl (by decide) (rFv_eq (by decide) (show (uG Gx 14 ((y147 : Int64).toInt)) 10 = at1 from (ex_at1))) rfl ?_
                          refine jx_ar (pc' := 94) (st' := [.int (i32 (1)), .int (i32 (at1)), .ref 66]) rfl rfl rfl rfl ?_
                          refine jx_add (pc' := 95) rfl rfl ?_
                          refine jr_put (pc' := 98) (i := 10) (z := (at1 + 1)) rfl rfl (by decide) rfl rfl rfl rfl rfl rfl ?_
                          have hW152 : Wk (uG (uG Gx 14 ((y147 : Int64).toInt)) 10 ((at1 + 1))) Ax := Wk_g hW149 (show (0 : Int) ≤ (at1 + 1) by omega) (show (at1 + 1) ≤ (3002 : Int) by omega)
                          have hF153 := Fr_g (z := (at1 + 1)) (i := 10) hF150 (by decide)
                          refine jx_go (tg := 7) rfl rfl ?_
                          exact ih _ (by omega) L151 (uG (uG Gx 14 ((y147 : Int64).toInt)) 10 ((at1 + 1))) Ax ((n + (1))) ((at1 + 1)) (A 0 ((at1 + 1)).toNat) rfl gL151_0 gL151_1 hW152 hF153 (rfl) ((congrFun (hFx.2 0 rfl) _)) (by omega) (by omega) (by omega) (by omega)
                  · have _q : True := trivial
                    refine jx_ar (pc' := 45) (st' := [.int (i32 (46)), .int (i32 (r106))]) rfl rfl rfl rfl ?_
                    refine jx_icmp_ne (pc' := 48) (tg := 101) rfl rfl rfl (by omega) (by omega) (by omega) (by omega) (fun h154 => ?_) (fun h154 => ?_)
                    · have _q := h154
                      refine jx_ld (pc' := 102) (l' := L) (st' := [.ref 66]) rfl (jl_aloadn gL_0) ?_
                      refine jx_ld (pc' := 103) (l' := L) (st' := [.int (i32 (n)), .ref 66]) rfl (jl_iloadn gL_1) ?_
                      refine jx_ar (pc' := 105) (st' := [.int (i32 (10)), .int (i32 (n)), .ref 66]) rfl rfl rfl rfl ?_
                      refine jx_icmp_le (pc' := 108) (tg := 112) rfl rfl rfl (by omega) (by omega) (by omega) (by omega) (fun h155 => ?_) (fun h155 => ?_)
                      · have _q := h155
                        refine jx_ar (pc' := 113) (st' := [.int (i32 (1)), .ref 66]) rfl rfl rfl rfl ?_
                        refine jr_put (pc' := 116) (i := 11) (z := 1) rfl rfl (by decide) rfl rfl rfl rfl rfl rfl ?_
                        have hW156 : Wk (uG Gx 11 (1)) Ax := Wk_g hWx (show (0 : Int) ≤ 1 by omega) (show 1 ≤ (5 : Int) by omega)
                        have hF157 := Fr_g (z := 1) (i := 11) hFx (by decide)
                        refine jx_rt (v := none) rfl rfl rfl rfl rfl rfl ?_
                        exact ⟨_, _, at1, 1, rfl, rfl, hW156, hF157, (ex_at1), rfl, by omega, by omega, by omega, trivial⟩
                      · have _q := h155
                        refine jx_ar (pc' := 109) (st' := [.int (i32 (5)), .ref 66]) rfl rfl rfl rfl ?_
                        refine jx_go (tg := 113) rfl rfl ?_
                        refine jr_put (pc' := 116) (i := 11) (z := 5) rfl rfl (by decide) rfl rfl rfl rfl rfl rfl ?_
                        have hW158 : Wk (uG Gx 11 (5)) Ax := Wk_g hWx (show (0 : Int) ≤ 5 by omega) (show 5 ≤ (5 : Int) by omega)
                        have hF159 := Fr_g (z := 5) (i := 11) hFx (by decide)
                        refine jx_rt (v := none) rfl rfl rfl rfl rfl rfl ?_
                        exact ⟨_, _, at1, 5, rfl, rfl, hW158, hF159, (ex_at1), rfl, by omega, by omega, by omega, trivial⟩
                    · have _q := h154
                      refine jx_ld (pc' := 49) (l' := L) (st' := [.ref 66]) rfl (jl_aloadn gL_0) ?_
                      refine jx_ld (pc' := 50) (l' := L) (st' := [.int (i32 (n)), .ref 66]) rfl (jl_iloadn gL_1) ?_
                      refine jx_ar (pc' := 52) (st' := [.int (i32 (10)), .int (i32 (n)), .ref 66]) rfl rfl rfl rfl ?_
                      refine jx_icmp_ge (pc' := 55) (tg := 78) rfl rfl rfl (by omega) (by omega) (by omega) (by omega) (fun h160 => ?_) (fun h160 => ?_)
                      · have _q := h160
                        refine jx_ld (pc' := 79) (l' := L) (st' := [.ref 66, .ref 66]) rfl (jl_aloadn gL_0) ?_
                        refine jr_get (pc' := 82) (i := 14) (v := .long (i64 (Gx 14))) rfl rfl (by decide) rfl rfl ?_
                        obtain ⟨y161, ey161⟩ : ∃ q : Int64, q = i64 (Gx 14) := ⟨_, rfl⟩
                        rw [← ey161]
                        have rl162 := i64_rg (y161)
                        refine jr_put (pc' := 85) (i := 14) (z := (y161 : Int64).toInt) rfl rfl (by decide) rfl rfl rfl rfl (congrArg Value.long (i64_of (y161))) rfl ?_
                        have hW163 : Wk (uG Gx 14 ((y161 : Int64).toInt)) Ax := Wk_g hWx (show (-9223372036854775808 : Int) ≤ (y161 : Int64).toInt by omega) (show (y161 : Int64).toInt ≤ (9223372036854775807 : Int) by omega)
                        have hF164 := Fr_g (z := (y161 : Int64).toInt) (i := 14) hFx (by decide)
                        refine jx_inc (pc' := 88) (l' := jSto1 L 1 (.int (i32 ((n + (1)))))) (x := n) rfl gL_1 (by decide) rfl rfl ?_
                        obtain ⟨L165, eL165⟩ : ∃ q, q = jSto1 L 1 (.int (i32 ((n + (1))))) := ⟨_, rfl⟩
                        rw [← eL165]
                        have gL165_0 : jGet L165 0 = some (.ref 66) := eL165 ▸ jg_ne (by decide) gL_0 rfl
                        have gL165_1 : jGet L165 1 = some (.int (i32 ((n + (1))))) := eL165 ▸ jg_eq
                        refine jx_ld (pc' := 89) (l' := L165) (st' := [.ref 66]) rfl (jl_aloadn gL165_0) ?_
                        refine jx_ar (pc' := 90) (st' := [.ref 66, .ref 66]) rfl rfl rfl rfl ?_
                        refine jr_get (pc' := 93) (i := 10) (v := .int (i32 (at1))) rfl rfl (by decide) (rFv_eq (by decide) (show (uG Gx 14 ((y161 : Int64).toInt)) 10 = at1 from (ex_at1))) rfl ?_
                        refine jx_ar (pc' := 94) (st' := [.int (i32 (1)), .int (i32 (at1)), .ref 66]) rfl rfl rfl rfl ?_
                        refine jx_add (pc' := 95) rfl rfl ?_
                        refine jr_put (pc' := 98) (i := 10) (z := (at1 + 1)) rfl rfl (by decide) rfl rfl rfl rfl rfl rfl ?_
                        have hW166 : Wk (uG (uG Gx 14 ((y161 : Int64).toInt)) 10 ((at1 + 1))) Ax := Wk_g hW163 (show (0 : Int) ≤ (at1 + 1) by omega) (show (at1 + 1) ≤ (3002 : Int) by omega)
                        have hF167 := Fr_g (z := (at1 + 1)) (i := 10) hF164 (by decide)
                        refine jx_go (tg := 7) rfl rfl ?_
                        exact ih _ (by omega) L165 (uG (uG Gx 14 ((y161 : Int64).toInt)) 10 ((at1 + 1))) Ax ((n + (1))) ((at1 + 1)) (A 0 ((at1 + 1)).toNat) rfl gL165_0 gL165_1 hW166 hF167 (rfl) ((congrFun (hFx.2 0 rfl) _)) (by omega) (by omega) (by omega) (by omega)
                      · have _q := h160
                        refine jx_hp (pc' := 58) (st' := [.long (38), .ref 66]) rfl rfl rfl rfl rfl rfl ?_
                        refine jx_ld (pc' := 59) (l' := L) (st' := [.ref 66, .long (38), .ref 66]) rfl (jl_aloadn gL_0) ?_
                        refine jr_get (pc' := 62) (i := 14) (v := .long (i64 (Gx 14))) rfl rfl (by decide) rfl rfl ?_
                        obtain ⟨y168, ey168⟩ : ∃ q : Int64, q = i64 (Gx 14) := ⟨_, rfl⟩
                        rw [← ey168]
                        refine jx_ar (pc' := 63) (st' := .long ((38 : Int64) * (y168)) :: [.ref 66]) rfl rfl rfl rfl ?_
                        obtain ⟨y169, ey169⟩ : ∃ q : Int64, q = (38 : Int64) * (y168) := ⟨_, rfl⟩
                        rw [← ey169]
                        refine jx_ld (pc' := 64) (l' := L) (st' := [.ref 66, .long (y169), .ref 66]) rfl (jl_aloadn gL_0) ?_
                        refine jx_ld (pc' := 65) (l' := L) (st' := [.ref 66, .ref 66, .long (y169), .ref 66]) rfl (jl_aloadn gL_0) ?_
                        refine jr_get (pc' := 68) (i := 10) (v := .int (i32 (at1))) rfl rfl (by decide) (rFv_eq (by decide) (show Gx 10 = at1 from (ex_at1))) rfl ?_
                        refine jx_vr (pc' := 71) (as := [.int (i32 (at1))]) (st := [.long (y169), .ref 66]) rfl rfl rfl rfl ⟨rfl, rfl, Nat.le_of_ble_eq_true rfl⟩ rfl rfl (c_sign (dd := d) (hd := by omega) (hW := hWx) (k := at1) (ln := ln) (e_ln := show Gx 9 = ln from ((hFx.1 9 rfl).trans (e_ln))) (le := le) (e_le := show Ax 4 (ln).toNat = le from (congrFun (hFx.2 4 rfl) _).trans (e_le)) (tx := cur) (e_tx := show Ax 0 (at1).toNat = cur from (ex_cur))  (h_k := by omega)  (p_0 := by omega)) (fun o V' hq => ?_)
                        obtain ⟨r170, rfl, rfl, b171, q172⟩ := hq
                        refine .inr ⟨_, rfl, ?_⟩
                        rcases q172 with ⟨a173, a174⟩ | ⟨a175, a176⟩
                        · have _q : True := trivial
                          refine jx_st (pc' := 74) (as := [.int (i32 (r170))]) (st := [.long (y169), .ref 66]) rfl rfl ⟨rfl, Nat.le_of_ble_eq_true rfl⟩ rfl rfl rfl (c_digit (dd := d) (hd := by omega) (c := r170)   (h_c := by omega)  ) (fun o V' hq => ?_)
                          obtain ⟨r177, rfl, rfl, -⟩ := hq
                          refine .inr ⟨_, rfl, ?_⟩
                          refine jx_ar (pc' := 75) (st' := .long ((y169 : Int64) + (r177)) :: [.ref 66]) rfl rfl rfl rfl ?_
                          obtain ⟨y179, ey179⟩ : ∃ q : Int64, q = (y169 : Int64) + (r177) := ⟨_, rfl⟩
                          rw [← ey179]
                          refine jx_go (tg := 82) rfl rfl ?_
                          have rl180 := i64_rg (y179)
                          refine jr_put (pc' := 85) (i := 14) (z := (y179 : Int64).toInt) rfl rfl (by decide) rfl rfl rfl rfl (congrArg Value.long (i64_of (y179))) rfl ?_
                          have hW181 : Wk (uG Gx 14 ((y179 : Int64).toInt)) Ax := Wk_g hWx (show (-9223372036854775808 : Int) ≤ (y179 : Int64).toInt by omega) (show (y179 : Int64).toInt ≤ (9223372036854775807 : Int) by omega)
                          have hF182 := Fr_g (z := (y179 : Int64).toInt) (i := 14) hFx (by decide)
                          refine jx_inc (pc' := 88) (l' := jSto1 L 1 (.int (i32 ((n + (1)))))) (x := n) rfl gL_1 (by decide) rfl rfl ?_
                          obtain ⟨L183, eL183⟩ : ∃ q, q = jSto1 L 1 (.int (i32 ((n + (1))))) := ⟨_, rfl⟩
                          rw [← eL183]
                          have gL183_0 : jGet L183 0 = some (.ref 66) := eL183 ▸ jg_ne (by decide) gL_0 rfl
                          have gL183_1 : jGet L183 1 = some (.int (i32 ((n + (1))))) := eL183 ▸ jg_eq
                          refine jx_ld (pc' := 89) (l' := L183) (st' := [.ref 66]) rfl (jl_aloadn gL183_0) ?_
                          refine jx_ar (pc' := 90) (st' := [.ref 66, .ref 66]) rfl rfl rfl rfl ?_
                          refine jr_get (pc' := 93) (i := 10) (v := .int (i32 (at1))) rfl rfl (by decide) (rFv_eq (by decide) (show (uG Gx 14 ((y179 : Int64).toInt)) 10 = at1 from (ex_at1))) rfl ?_
                          refine jx_ar (pc' := 94) (st' := [.int (i32 (1)), .int (i32 (at1)), .ref 66]) rfl rfl rfl rfl ?_
                          refine jx_add (pc' := 95) rfl rfl ?_
                          refine jr_put (pc' := 98) (i := 10) (z := (at1 + 1)) rfl rfl (by decide) rfl rfl rfl rfl rfl rfl ?_
                          have hW184 : Wk (uG (uG Gx 14 ((y179 : Int64).toInt)) 10 ((at1 + 1))) Ax := Wk_g hW181 (show (0 : Int) ≤ (at1 + 1) by omega) (show (at1 + 1) ≤ (3002 : Int) by omega)
                          have hF185 := Fr_g (z := (at1 + 1)) (i := 10) hF182 (by decide)
                          refine jx_go (tg := 7) rfl rfl ?_
                          exact ih _ (by omega) L183 (uG (uG Gx 14 ((y179 : Int64).toInt)) 10 ((at1 + 1))) Ax ((n + (1))) ((at1 + 1)) (A 0 ((at1 + 1)).toNat) rfl gL183_0 gL183_1 hW184 hF185 (rfl) ((congrFun (hFx.2 0 rfl) _)) (by omega) (by omega) (by omega) (by omega)
                        · have _q : True := trivial
                          refine jx_st (pc' := 74) (as := [.int (i32 (r170))]) (st := [.long (y169), .ref 66]) rfl rfl ⟨rfl, Nat.le_of_ble_eq_true rfl⟩ rfl rfl rfl (c_digit (dd := d) (hd := by omega) (c := r170)   (h_c := by omega)  ) (fun o V' hq => ?_)
                          obtain ⟨r186, rfl, rfl, -⟩ := hq
                          refine .inr ⟨_, rfl, ?_⟩
                          refine jx_ar (pc' := 75) (st' := .long ((y169 : Int64) + (r186)) :: [.ref 66]) rfl rfl rfl rfl ?_
                          obtain ⟨y188, ey188⟩ : ∃ q : Int64, q = (y169 : Int64) + (r186) := ⟨_, rfl⟩
                          rw [← ey188]
                          refine jx_go (tg := 82) rfl rfl ?_
                          have rl189 := i64_rg (y188)
                          refine jr_put (pc' := 85) (i := 14) (z := (y188 : Int64).toInt) rfl rfl (by decide) rfl rfl rfl rfl (congrArg Value.long (i64_of (y188))) rfl ?_
                          have hW190 : Wk (uG Gx 14 ((y188 : Int64).toInt)) Ax := Wk_g hWx (show (-9223372036854775808 : Int) ≤ (y188 : Int64).toInt by omega) (show (y188 : Int64).toInt ≤ (9223372036854775807 : Int) by omega)
                          have hF191 := Fr_g (z := (y188 : Int64).toInt) (i := 14) hFx (by decide)
                          refine jx_inc (pc' := 88) (l' := jSto1 L 1 (.int (i32 ((n + (1)))))) (x := n) rfl gL_1 (by decide) rfl rfl ?_
                          obtain ⟨L192, eL192⟩ : ∃ q, q = jSto1 L 1 (.int (i32 ((n + (1))))) := ⟨_, rfl⟩
                          rw [← eL192]
                          have gL192_0 : jGet L192 0 = some (.ref 66) := eL192 ▸ jg_ne (by decide) gL_0 rfl
                          have gL192_1 : jGet L192 1 = some (.int (i32 ((n + (1))))) := eL192 ▸ jg_eq
                          refine jx_ld (pc' := 89) (l' := L192) (st' := [.ref 66]) rfl (jl_aloadn gL192_0) ?_
                          refine jx_ar (pc' := 90) (st' := [.ref 66, .ref 66]) rfl rfl rfl rfl ?_
                          refine jr_get (pc' := 93) (i := 10) (v := .int (i32 (at1))) rfl rfl (by decide) (rFv_eq (by decide) (show (uG Gx 14 ((y188 : Int64).toInt)) 10 = at1 from (ex_at1))) rfl ?_
                          refine jx_ar (pc' := 94) (st' := [.int (i32 (1)), .int (i32 (at1)), .ref 66]) rfl rfl rfl rfl ?_
                          refine jx_add (pc' := 95) rfl rfl ?_
                          refine jr_put (pc' := 98) (i := 10) (z := (at1 + 1)) rfl rfl (by decide) rfl rfl rfl rfl rfl rfl ?_
                          have hW193 : Wk (uG (uG Gx 14 ((y188 : Int64).toInt)) 10 ((at1 + 1))) Ax := Wk_g hW190 (show (0 : Int) ≤ (at1 + 1) by omega) (show (at1 + 1) ≤ (3002 : Int) by omega)
                          have hF194 := Fr_g (z := (at1 + 1)) (i := 10) hF191 (by decide)
                          refine jx_go (tg := 7) rfl rfl ?_
                          exact ih _ (by omega) L192 (uG (uG Gx 14 ((y188 : Int64).toInt)) 10 ((at1 + 1))) Ax ((n + (1))) ((at1 + 1)) (A 0 ((at1 + 1)).toNat) rfl gL192_0 gL192_1 hW193 hF194 (rfl) ((congrFun (hFx.2 0 rfl) _)) (by omega) (by omega) (by omega) (by omega)
            · have _q : True := trivial
              refine jx_st (pc' := 32) (as := [.int (i32 (r56))]) (st := []) rfl rfl ⟨rfl, Nat.le_of_ble_eq_true rfl⟩ rfl rfl rfl (c_isDigit (dd := d) (hd := by omega) (v := r56)   (h_v := by omega)  ) (fun o V' hq => ?_)
              obtain ⟨r195, rfl, rfl, b196, q197⟩ := hq
              refine .inr ⟨_, rfl, ?_⟩
              rcases q197 with ⟨rfl, a198, a199⟩ | ⟨rfl, a200⟩
              · have _q : True := trivial
                refine jx_if_ne (pc' := 35) (tg := 48) rfl rfl rfl (by omega) (by omega) (fun h201 => ?_) (fun h201 => ?_)
                · have _q := h201
                  refine jx_ld (pc' := 49) (l' := L) (st' := [.ref 66]) rfl (jl_aloadn gL_0) ?_
                  refine jx_ld (pc' := 50) (l' := L) (st' := [.int (i32 (n)), .ref 66]) rfl (jl_iloadn gL_1) ?_
                  refine jx_ar (pc' := 52) (st' := [.int (i32 (10)), .int (i32 (n)), .ref 66]) rfl rfl rfl rfl ?_
                  refine jx_icmp_ge (pc' := 55) (tg := 78) rfl rfl rfl (by omega) (by omega) (by omega) (by omega) (fun h202 => ?_) (fun h202 => ?_)
                  · have _q := h202
                    refine jx_ld (pc' := 79) (l' := L) (st' := [.ref 66, .ref 66]) rfl (jl_aloadn gL_0) ?_
                    refine jr_get (pc' := 82) (i := 14) (v := .long (i64 (Gx 14))) rfl rfl (by decide) rfl rfl ?_
                    obtain ⟨y203, ey203⟩ : ∃ q : Int64, q = i64 (Gx 14) := ⟨_, rfl⟩
                    rw [← ey203]
                    have rl204 := i64_rg (y203)
                    refine jr_put (pc' := 85) (i := 14) (z := (y203 : Int64).toInt) rfl rfl (by decide) rfl rfl rfl rfl (congrArg Value.long (i64_of (y203))) rfl ?_
                    have hW205 : Wk (uG Gx 14 ((y203 : Int64).toInt)) Ax := Wk_g hWx (show (-9223372036854775808 : Int) ≤ (y203 : Int64).toInt by omega) (show (y203 : Int64).toInt ≤ (9223372036854775807 : Int) by omega)
                    have hF206 := Fr_g (z := (y203 : Int64).toInt) (i := 14) hFx (by decide)
                    refine jx_inc (pc' := 88) (l' := jSto1 L 1 (.int (i32 ((n + (1)))))) (x := n) rfl gL_1 (by decide) rfl rfl ?_
                    obtain ⟨L207, eL207⟩ : ∃ q, q = jSto1 L 1 (.int (i32 ((n + (1))))) := ⟨_, rfl⟩
                    rw [← eL207]
                    have gL207_0 : jGet L207 0 = some (.ref 66) := eL207 ▸ jg_ne (by decide) gL_0 rfl
                    have gL207_1 : jGet L207 1 = some (.int (i32 ((n + (1))))) := eL207 ▸ jg_eq
                    refine jx_ld (pc' := 89) (l' := L207) (st' := [.ref 66]) rfl (jl_aloadn gL207_0) ?_
                    refine jx_ar (pc' := 90) (st' := [.ref 66, .ref 66]) rfl rfl rfl rfl ?_
                    refine jr_get (pc' := 93) (i := 10) (v := .int (i32 (at1))) rfl rfl (by decide) (rFv_eq (by decide) (show (uG Gx 14 ((y203 : Int64).toInt)) 10 = at1 from (ex_at1))) rfl ?_
                    refine jx_ar (pc' := 94) (st' := [.int (i32 (1)), .int (i32 (at1)), .ref 66]) rfl rfl rfl rfl ?_
                    refine jx_add (pc' := 95) rfl rfl ?_
                    refine jr_put (pc' := 98) (i := 10) (z := (at1 + 1)) rfl rfl (by decide) rfl rfl rfl rfl rfl rfl ?_
                    have hW208 : Wk (uG (uG Gx 14 ((y203 : Int64).toInt)) 10 ((at1 + 1))) Ax := Wk_g hW205 (show (0 : Int) ≤ (at1 + 1) by omega) (show (at1 + 1) ≤ (3002 : Int) by omega)
                    have hF209 := Fr_g (z := (at1 + 1)) (i := 10) hF206 (by decide)
                    refine jx_go (tg := 7) rfl rfl ?_
                    exact ih _ (by omega) L207 (uG (uG Gx 14 ((y203 : Int64).toInt)) 10 ((at1 + 1))) Ax ((n + (1))) ((at1 + 1)) (A 0 ((at1 + 1)).toNat) rfl gL207_0 gL207_1 hW208 hF209 (rfl) ((congrFun (hFx.2 0 rfl) _)) (by omega) (by omega) (by omega) (by omega)
                  · have _q := h202
                    refine jx_hp (pc' := 58) (st' := [.long (38), .ref 66]) rfl rfl rfl rfl rfl rfl ?_
                    refine jx_ld (pc' := 59) (l' := L) (st' := [.ref 66, .long (38), .ref 66]) rfl (jl_aloadn gL_0) ?_
                    refine jr_get (pc' := 62) (i := 14) (v := .long (i64 (Gx 14))) rfl rfl (by decide) rfl rfl ?_
                    obtain ⟨y210, ey210⟩ : ∃ q : Int64, q = i64 (Gx 14) := ⟨_, rfl⟩
                    rw [← ey210]
                    refine jx_ar (pc' := 63) (st' := .long ((38 : Int64) * (y210)) :: [.ref 66]) rfl rfl rfl rfl ?_
                    obtain ⟨y211, ey211⟩ : ∃ q : Int64, q = (38 : Int64) * (y210) := ⟨_, rfl⟩
                    rw [← ey211]
                    refine jx_ld (pc' := 64) (l' := L) (st' := [.ref 66, .long (y211), .ref 66]) rfl (jl_aloadn gL_0) ?_
                    refine jx_ld (pc' := 65) (l' := L) (st' := [.ref 66, .ref 66, .long (y211), .ref 66]) rfl (jl_aloadn gL_0) ?_
                    refine jr_get (pc' := 68) (i := 10) (v := .int (i32 (at1))) rfl rfl (by decide) (rFv_eq (by decide) (show Gx 10 = at1 from (ex_at1))) rfl ?_
                    refine jx_vr (pc' := 71) (as := [.int (i32 (at1))]) (st := [.long (y211), .ref 66]) rfl rfl rfl rfl ⟨rfl, rfl, Nat.le_of_ble_eq_true rfl⟩ rfl rfl (c_sign (dd := d) (hd := by omega) (hW := hWx) (k := at1) (ln := ln) (e_ln := show Gx 9 = ln from ((hFx.1 9 rfl).trans (e_ln))) (le := le) (e_le := show Ax 4 (ln).toNat = le from (congrFun (hFx.2 4 rfl) _).trans (e_le)) (tx := cur) (e_tx := show Ax 0 (at1).toNat = cur from (ex_cur))  (h_k := by omega)  (p_0 := by omega)) (fun o V' hq => ?_)
                    obtain ⟨r212, rfl, rfl, b213, q214⟩ := hq
                    refine .inr ⟨_, rfl, ?_⟩
                    rcases q214 with ⟨a215, a216⟩ | ⟨a217, a218⟩
                    · have _q : True := trivial
                      refine jx_st (pc' := 74) (as := [.int (i32 (r212))]) (st := [.long (y211), .ref 66]) rfl rfl ⟨rfl, Nat.le_of_ble_eq_true rfl⟩ rfl rfl rfl (c_digit (dd := d) (hd := by omega) (c := r212)   (h_c := by omega)  ) (fun o V' hq => ?_)
                      obtain ⟨r219, rfl, rfl, -⟩ := hq
                      refine .inr ⟨_, rfl, ?_⟩
                      refine jx_ar (pc' := 75) (st' := .long ((y211 : Int64) + (r219)) :: [.ref 66]) rfl rfl rfl rfl ?_
                      obtain ⟨y221, ey221⟩ : ∃ q : Int64, q = (y211 : Int64) + (r219) := ⟨_, rfl⟩
                      rw [← ey221]
                      refine jx_go (tg := 82) rfl rfl ?_
                      have rl222 := i64_rg (y221)
                      refine jr_put (pc' := 85) (i := 14) (z := (y221 : Int64).toInt) rfl rfl (by decide) rfl rfl rfl rfl (congrArg Value.long (i64_of (y221))) rfl ?_
                      have hW223 : Wk (uG Gx 14 ((y221 : Int64).toInt)) Ax := Wk_g hWx (show (-9223372036854775808 : Int) ≤ (y221 : Int64).toInt by omega) (show (y221 : Int64).toInt ≤ (9223372036854775807 : Int) by omega)
                      have hF224 := Fr_g (z := (y221 : Int64).toInt) (i := 14) hFx (by decide)
                      refine jx_inc (pc' := 88) (l' := jSto1 L 1 (.int (i32 ((n + (1)))))) (x := n) rfl gL_1 (by decide) rfl rfl ?_
                      obtain ⟨L225, eL225⟩ : ∃ q, q = jSto1 L 1 (.int (i32 ((n + (1))))) := ⟨_, rfl⟩
                      rw [← eL225]
                      have gL225_0 : jGet L225 0 = some (.ref 66) := eL225 ▸ jg_ne (by decide) gL_0 rfl
                      have gL225_1 : jGet L225 1 = some (.int (i32 ((n + (1))))) := eL225 ▸ jg_eq
                      refine jx_ld (pc' := 89) (l' := L225) (st' := [.ref 66]) rfl (jl_aloadn gL225_0) ?_
                      refine jx_ar (pc' := 90) (st' := [.ref 66, .ref 66]) rfl rfl rfl rfl ?_
                      refine jr_get (pc' := 93) (i := 10) (v := .int (i32 (at1))) rfl rfl (by decide) (rFv_eq (by decide) (show (uG Gx 14 ((y221 : Int64).toInt)) 10 = at1 from (ex_at1))) rfl ?_
                      refine jx_ar (pc' := 94) (st' := [.int (i32 (1)), .int (i32 (at1)), .ref 66]) rfl rfl rfl rfl ?_
                      refine jx_add (pc' := 95) rfl rfl ?_
                      refine jr_put (pc' := 98) (i := 10) (z := (at1 + 1)) rfl rfl (by decide) rfl rfl rfl rfl rfl rfl ?_
                      have hW226 : Wk (uG (uG Gx 14 ((y221 : Int64).toInt)) 10 ((at1 + 1))) Ax := Wk_g hW223 (show (0 : Int) ≤ (at1 + 1) by omega) (show (at1 + 1) ≤ (3002 : Int) by omega)
                      have hF227 := Fr_g (z := (at1 + 1)) (i := 10) hF224 (by decide)
                      refine jx_go (tg := 7) rfl rfl ?_
                      exact ih _ (by omega) L225 (uG (uG Gx 14 ((y221 : Int64).toInt)) 10 ((at1 + 1))) Ax ((n + (1))) ((at1 + 1)) (A 0 ((at1 + 1)).toNat) rfl gL225_0 gL225_1 hW226 hF227 (rfl) ((congrFun (hFx.2 0 rfl) _)) (by omega) (by omega) (by omega) (by omega)
                    · have _q : True := trivial
                      refine jx_st (pc' := 74) (as := [.int (i32 (r212))]) (st := [.long (y211), .ref 66]) rfl rfl ⟨rfl, Nat.le_of_ble_eq_true rfl⟩ rfl rfl rfl (c_digit (dd := d) (hd := by omega) (c := r212)   (h_c := by omega)  ) (fun o V' hq => ?_)
                      obtain ⟨r228, rfl, rfl, -⟩ := hq
                      refine .inr ⟨_, rfl, ?_⟩
                      refine jx_ar (pc' := 75) (st' := .long ((y211 : Int64) + (r228)) :: [.ref 66]) rfl rfl rfl rfl ?_
                      obtain ⟨y230, ey230⟩ : ∃ q : Int64, q = (y211 : Int64) + (r228) := ⟨_, rfl⟩
                      rw [← ey230]
                      refine jx_go (tg := 82) rfl rfl ?_
                      have rl231 := i64_rg (y230)
                      refine jr_put (pc' := 85) (i := 14) (z := (y230 : Int64).toInt) rfl rfl (by decide) rfl rfl rfl rfl (congrArg Value.long (i64_of (y230))) rfl ?_
                      have hW232 : Wk (uG Gx 14 ((y230 : Int64).toInt)) Ax := Wk_g hWx (show (-9223372036854775808 : Int) ≤ (y230 : Int64).toInt by omega) (show (y230 : Int64).toInt ≤ (9223372036854775807 : Int) by omega)
                      have hF233 := Fr_g (z := (y230 : Int64).toInt) (i := 14) hFx (by decide)
                      refine jx_inc (pc' := 88) (l' := jSto1 L 1 (.int (i32 ((n + (1)))))) (x := n) rfl gL_1 (by decide) rfl rfl ?_
                      obtain ⟨L234, eL234⟩ : ∃ q, q = jSto1 L 1 (.int (i32 ((n + (1))))) := ⟨_, rfl⟩
                      rw [← eL234]
                      have gL234_0 : jGet L234 0 = some (.ref 66) := eL234 ▸ jg_ne (by decide) gL_0 rfl
                      have gL234_1 : jGet L234 1 = some (.int (i32 ((n + (1))))) := eL234 ▸ jg_eq
                      refine jx_ld (pc' := 89) (l' := L234) (st' := [.ref 66]) rfl (jl_aloadn gL234_0) ?_
                      refine jx_ar (pc' := 90) (st' := [.ref 66, .ref 66]) rfl rfl rfl rfl ?_
                      refine jr_get (pc' := 93) (i := 10) (v := .int (i32 (at1))) rfl rfl (by decide) (rFv_eq (by decide) (show (uG Gx 14 ((y230 : Int64).toInt)) 10 = at1 from (ex_at1))) rfl ?_
                      refine jx_ar (pc' := 94) (st' := [.int (i32 (1)), .int (i32 (at1)), .ref 66]) rfl rfl rfl rfl ?_
                      refine jx_add (pc' := 95) rfl rfl ?_
                      refine jr_put (pc' := 98) (i := 10) (z := (at1 + 1)) rfl rfl (by decide) rfl rfl rfl rfl rfl rfl ?_
                      have hW235 : Wk (uG (uG Gx 14 ((y230 : Int64).toInt)) 10 ((at1 + 1))) Ax := Wk_g hW232 (show (0 : Int) ≤ (at1 + 1) by omega) (show (at1 + 1) ≤ (3002 : Int) by omega)
                      have hF236 := Fr_g (z := (at1 + 1)) (i := 10) hF233 (by decide)
                      refine jx_go (tg := 7) rfl rfl ?_
                      exact ih _ (by omega) L234 (uG (uG Gx 14 ((y230 : Int64).toInt)) 10 ((at1 + 1))) Ax ((n + (1))) ((at1 + 1)) (A 0 ((at1 + 1)).toNat) rfl gL234_0 gL234_1 hW235 hF236 (rfl) ((congrFun (hFx.2 0 rfl) _)) (by omega) (by omega) (by omega) (by omega)
                · have _q := h201
                  exact absurd h201 (by omega)
              · have _q : True := trivial
                refine jx_if_ne (pc' := 35) (tg := 48) rfl rfl rfl (by omega) (by omega) (fun h237 => ?_) (fun h237 => ?_)
                · have _q := h237
                  exact absurd h237 (by omega)
                · have _q := h237
                  refine jx_ld (pc' := 36) (l' := L) (st' := [.ref 66]) rfl (jl_aloadn gL_0) ?_
                  refine jx_ld (pc' := 37) (l' := L) (st' := [.ref 66, .ref 66]) rfl (jl_aloadn gL_0) ?_
                  refine jr_get (pc' := 40) (i := 10) (v := .int (i32 (at1))) rfl rfl (by decide) (rFv_eq (by decide) (show Gx 10 = at1 from (ex_at1))) rfl ?_
                  refine jx_vr (pc' := 43) (as := [.int (i32 (at1))]) (st := []) rfl rfl rfl rfl ⟨rfl, rfl, Nat.le_of_ble_eq_true rfl⟩ rfl rfl (c_sign (dd := d) (hd := by omega) (hW := hWx) (k := at1) (ln := ln) (e_ln := show Gx 9 = ln from ((hFx.1 9 rfl).trans (e_ln))) (le := le) (e_le := show Ax 4 (ln).toNat = le from (congrFun (hFx.2 4 rfl) _).trans (e_le)) (tx := cur) (e_tx := show Ax 0 (at1).toNat = cur from (ex_cur))  (h_k := by omega)  (p_0 := by omega)) (fun o V' hq => ?_)
                  obtain ⟨r238, rfl, rfl, b239, q240⟩ := hq
                  refine .inr ⟨_, rfl, ?_⟩
                  rcases q240 with ⟨a241, a242⟩ | ⟨a243, a244⟩
                  · have _q : True := trivial
                    refine jx_ar (pc' := 45) (st' := [.int (i32 (46)), .int (i32 (r238))]) rfl rfl rfl rfl ?_
                    refine jx_icmp_ne (pc' := 48) (tg := 101) rfl rfl rfl (by omega) (by omega) (by omega) (by omega) (fun h245 => ?_) (fun h245 => ?_)
                    · have _q := h245
                      refine jx_ld (pc' := 102) (l' := L) (st' := [.ref 66]) rfl (jl_aloadn gL_0) ?_
                      refine jx_ld (pc' := 103) (l' := L) (st' := [.int (i32 (n)), .ref 66]) rfl (jl_iloadn gL_1) ?_
                      refine jx_ar (pc' := 105) (st' := [.int (i32 (10)), .int (i32 (n)), .ref 66]) rfl rfl rfl rfl ?_
                      refine jx_icmp_le (pc' := 108) (tg := 112) rfl rfl rfl (by omega) (by omega) (by omega) (by omega) (fun h246 => ?_) (fun h246 => ?_)
                      · have _q := h246
                        refine jx_ar (pc' := 113) (st' := [.int (i32 (1)), .ref 66]) rfl rfl rfl rfl ?_
                        refine jr_put (pc' := 116) (i := 11) (z := 1) rfl rfl (by decide) rfl rfl rfl rfl rfl rfl ?_
                        have hW247 : Wk (uG Gx 11 (1)) Ax := Wk_g hWx (show (0 : Int) ≤ 1 by omega) (show 1 ≤ (5 : Int) by omega)
                        have hF248 := Fr_g (z := 1) (i := 11) hFx (by decide)
                        refine jx_rt (v := none) rfl rfl rfl rfl rfl rfl ?_
                        exact ⟨_, _, at1, 1, rfl, rfl, hW247, hF248, (ex_at1), rfl, by omega, by omega, by omega, trivial⟩
                      · have _q := h246
                        refine jx_ar (pc' := 109) (st' := [.int (i32 (5)), .ref 66]) rfl rfl rfl rfl ?_
                        refine jx_go (tg := 113) rfl rfl ?_
                        refine jr_put (pc' := 116) (i := 11) (z := 5) rfl rfl (by decide) rfl rfl rfl rfl rfl rfl ?_
                        have hW249 : Wk (uG Gx 11 (5)) Ax := Wk_g hWx (show (0 : Int) ≤ 5 by omega) (show 5 ≤ (5 : Int) by omega)
                        have hF250 := Fr_g (z := 5) (i := 11) hFx (by decide)
                        refine jx_rt (v := none) rfl rfl rfl rfl rfl rfl ?_
                        exact ⟨_, _, at1, 5, rfl, rfl, hW249, hF250, (ex_at1), rfl, by omega, by omega, by omega, trivial⟩
                    · have _q := h245
                      refine jx_ld (pc' := 49) (l' := L) (st' := [.ref 66]) rfl (jl_aloadn gL_0) ?_
                      refine jx_ld (pc' := 50) (l' := L) (st' := [.int (i32 (n)), .ref 66]) rfl (jl_iloadn gL_1) ?_
                      refine jx_ar (pc' := 52) (st' := [.int (i32 (10)), .int (i32 (n)), .ref 66]) rfl rfl rfl rfl ?_
                      refine jx_icmp_ge (pc' := 55) (tg := 78) rfl rfl rfl (by omega) (by omega) (by omega) (by omega) (fun h251 => ?_) (fun h251 => ?_)
                      · have _q := h251
                        refine jx_ld (pc' := 79) (l' := L) (st' := [.ref 66, .ref 66]) rfl (jl_aloadn gL_0) ?_
                        refine jr_get (pc' := 82) (i := 14) (v := .long (i64 (Gx 14))) rfl rfl (by decide) rfl rfl ?_
                        obtain ⟨y252, ey252⟩ : ∃ q : Int64, q = i64 (Gx 14) := ⟨_, rfl⟩
                        rw [← ey252]
                        have rl253 := i64_rg (y252)
                        refine jr_put (pc' := 85) (i := 14) (z := (y252 : Int64).toInt) rfl rfl (by decide) rfl rfl rfl rfl (congrArg Value.long (i64_of (y252))) rfl ?_
                        have hW254 : Wk (uG Gx 14 ((y252 : Int64).toInt)) Ax := Wk_g hWx (show (-9223372036854775808 : Int) ≤ (y252 : Int64).toInt by omega) (show (y252 : Int64).toInt ≤ (9223372036854775807 : Int) by omega)
                        have hF255 := Fr_g (z := (y252 : Int64).toInt) (i := 14) hFx (by decide)
                        refine jx_inc (pc' := 88) (l' := jSto1 L 1 (.int (i32 ((n + (1)))))) (x := n) rfl gL_1 (by decide) rfl rfl ?_
                        obtain ⟨L256, eL256⟩ : ∃ q, q = jSto1 L 1 (.int (i32 ((n + (1))))) := ⟨_, rfl⟩
                        rw [← eL256]
                        have gL256_0 : jGet L256 0 = some (.ref 66) := eL256 ▸ jg_ne (by decide) gL_0 rfl
                        have gL256_1 : jGet L256 1 = some (.int (i32 ((n + (1))))) := eL256 ▸ jg_eq
                        refine jx_ld (pc' := 89) (l' := L256) (st' := [.ref 66]) rfl (jl_aloadn gL256_0) ?_
                        refine jx_ar (pc' := 90) (st' := [.ref 66, .ref 66]) rfl rfl rfl rfl ?_
                        refine jr_get (pc' := 93) (i := 10) (v := .int (i32 (at1))) rfl rfl (by decide) (rFv_eq (by decide) (show (uG Gx 14 ((y252 : Int64).toInt)) 10 = at1 from (ex_at1))) rfl ?_
                        refine jx_ar (pc' := 94) (st' := [.int (i32 (1)), .int (i32 (at1)), .ref 66]) rfl rfl rfl rfl ?_
                        refine jx_add (pc' := 95) rfl rfl ?_
                        refine jr_put (pc' := 98) (i := 10) (z := (at1 + 1)) rfl rfl (by decide) rfl rfl rfl rfl rfl rfl ?_
                        have hW257 : Wk (uG (uG Gx 14 ((y252 : Int64).toInt)) 10 ((at1 + 1))) Ax := Wk_g hW254 (show (0 : Int) ≤ (at1 + 1) by omega) (show (at1 + 1) ≤ (3002 : Int) by omega)
                        have hF258 := Fr_g (z := (at1 + 1)) (i := 10) hF255 (by decide)
                        refine jx_go (tg := 7) rfl rfl ?_
                        exact ih _ (by omega) L256 (uG (uG Gx 14 ((y252 : Int64).toInt)) 10 ((at1 + 1))) Ax ((n + (1))) ((at1 + 1)) (A 0 ((at1 + 1)).toNat) rfl gL256_0 gL256_1 hW257 hF258 (rfl) ((congrFun (hFx.2 0 rfl) _)) (by omega) (by omega) (by omega) (by omega)
                      · have _q := h251
                        refine jx_hp (pc' := 58) (st' := [.long (38), .ref 66]) rfl rfl rfl rfl rfl rfl ?_
                        refine jx_ld (pc' := 59) (l' := L) (st' := [.ref 66, .long (38), .ref 66]) rfl (jl_aloadn gL_0) ?_
                        refine jr_get (pc' := 62) (i := 14) (v := .long (i64 (Gx 14))) rfl rfl (by decide) rfl rfl ?_
                        obtain ⟨y259, ey259⟩ : ∃ q : Int64, q = i64 (Gx 14) := ⟨_, rfl⟩
                        rw [← ey259]
                        refine jx_ar (pc' := 63) (st' := .long ((38 : Int64) * (y259)) :: [.ref 66]) rfl rfl rfl rfl ?_
                        obtain ⟨y260, ey260⟩ : ∃ q : Int64, q = (38 : Int64) * (y259) := ⟨_, rfl⟩
                        rw [← ey260]
                        refine jx_ld (pc' := 64) (l' := L) (st' := [.ref 66, .long (y260), .ref 66]) rfl (jl_aloadn gL_0) ?_
                        refine jx_ld (pc' := 65) (l' := L) (st' := [.ref 66, .ref 66, .long (y260), .ref 66]) rfl (jl_aloadn gL_0) ?_
                        refine jr_get (pc' := 68) (i := 10) (v := .int (i32 (at1))) rfl rfl (by decide) (rFv_eq (by decide) (show Gx 10 = at1 from (ex_at1))) rfl ?_
                        refine jx_vr (pc' := 71) (as := [.int (i32 (at1))]) (st := [.long (y260), .ref 66]) rfl rfl rfl rfl ⟨rfl, rfl, Nat.le_of_ble_eq_true rfl⟩ rfl rfl (c_sign (dd := d) (hd := by omega) (hW := hWx) (k := at1) (ln := ln) (e_ln := show Gx 9 = ln from ((hFx.1 9 rfl).trans (e_ln))) (le := le) (e_le := show Ax 4 (ln).toNat = le from (congrFun (hFx.2 4 rfl) _).trans (e_le)) (tx := cur) (e_tx := show Ax 0 (at1).toNat = cur from (ex_cur))  (h_k := by omega)  (p_0 := by omega)) (fun o V' hq => ?_)
                        obtain ⟨r261, rfl, rfl, b262, q263⟩ := hq
                        refine .inr ⟨_, rfl, ?_⟩
                        rcases q263 with ⟨a264, a265⟩ | ⟨a266, a267⟩
                        · have _q : True := trivial
                          refine jx_st (pc' := 74) (as := [.int (i32 (r261))]) (st := [.long (y260), .ref 66]) rfl rfl ⟨rfl, Nat.le_of_ble_eq_true rfl⟩ rfl rfl rfl (c_digit (dd := d) (hd := by omega) (c := r261)   (h_c := by omega)  ) (fun o V' hq => ?_)
                          obtain ⟨r268, rfl, rfl, -⟩ := hq
                          refine .inr ⟨_, rfl, ?_⟩
                          refine jx_ar (pc' := 75) (st' := .long ((y260 : Int64) + (r268)) :: [.ref 66]) rfl rfl rfl rfl ?_
                          obtain ⟨y270, ey270⟩ : ∃ q : Int64, q = (y260 : Int64) + (r268) := ⟨_, rfl⟩
                          rw [← ey270]
                          refine jx_go (tg := 82) rfl rfl ?_
                          have rl271 := i64_rg (y270)
                          refine jr_put (pc' := 85) (i := 14) (z := (y270 : Int64).toInt) rfl rfl (by decide) rfl rfl rfl rfl (congrArg Value.long (i64_of (y270))) rfl ?_
                          have hW272 : Wk (uG Gx 14 ((y270 : Int64).toInt)) Ax := Wk_g hWx (show (-9223372036854775808 : Int) ≤ (y270 : Int64).toInt by omega) (show (y270 : Int64).toInt ≤ (9223372036854775807 : Int) by omega)
                          have hF273 := Fr_g (z := (y270 : Int64).toInt) (i := 14) hFx (by decide)
                          refine jx_inc (pc' := 88) (l' := jSto1 L 1 (.int (i32 ((n + (1)))))) (x := n) rfl gL_1 (by decide) rfl rfl ?_
                          obtain ⟨L274, eL274⟩ : ∃ q, q = jSto1 L 1 (.int (i32 ((n + (1))))) := ⟨_, rfl⟩
                          rw [← eL274]
                          have gL274_0 : jGet L274 0 = some (.ref 66) := eL274 ▸ jg_ne (by decide) gL_0 rfl
                          have gL274_1 : jGet L274 1 = some (.int (i32 ((n + (1))))) := eL274 ▸ jg_eq
                          refine jx_ld (pc' := 89) (l' := L274) (st' := [.ref 66]) rfl (jl_aloadn gL274_0) ?_
                          refine jx_ar (pc' := 90) (st' := [.ref 66, .ref 66]) rfl rfl rfl rfl ?_
                          refine jr_get (pc' := 93) (i := 10) (v := .int (i32 (at1))) rfl rfl (by decide) (rFv_eq (by decide) (show (uG Gx 14 ((y270 : Int64).toInt)) 10 = at1 from (ex_at1))) rfl ?_
                          refine jx_ar (pc' := 94) (st' := [.int (i32 (1)), .int (i32 (at1)), .ref 66]) rfl rfl rfl rfl ?_
                          refine jx_add (pc' := 95) rfl rfl ?_
                          refine jr_put (pc' := 98) (i := 10) (z := (at1 + 1)) rfl rfl (by decide) rfl rfl rfl rfl rfl rfl ?_
                          have hW275 : Wk (uG (uG Gx 14 ((y270 : Int64).toInt)) 10 ((at1 + 1))) Ax := Wk_g hW272 (show (0 : Int) ≤ (at1 + 1) by omega) (show (at1 + 1) ≤ (3002 : Int) by omega)
                          have hF276 := Fr_g (z := (at1 + 1)) (i := 10) hF273 (by decide)
                          refine jx_go (tg := 7) rfl rfl ?_
                          exact ih _ (by omega) L274 (uG (uG Gx 14 ((y270 : Int64).toInt)) 10 ((at1 + 1))) Ax ((n + (1))) ((at1 + 1)) (A 0 ((at1 + 1)).toNat) rfl gL274_0 gL274_1 hW275 hF276 (rfl) ((congrFun (hFx.2 0 rfl) _)) (by omega) (by omega) (by omega) (by omega)
                        · have _q : True := trivial
                          refine jx_st (pc' := 74) (as := [.int (i32 (r261))]) (st := [.long (y260), .ref 66]) rfl rfl ⟨rfl, Nat.le_of_ble_eq_true rfl⟩ rfl rfl rfl (c_digit (dd := d) (hd := by omega) (c := r261)   (h_c := by omega)  ) (fun o V' hq => ?_)
                          obtain ⟨r277, rfl, rfl, -⟩ := hq
                          refine .inr ⟨_, rfl, ?_⟩
                          refine jx_ar (pc' := 75) (st' := .long ((y260 : Int64) + (r277)) :: [.ref 66]) rfl rfl rfl rfl ?_
                          obtain ⟨y279, ey279⟩ : ∃ q : Int64, q = (y260 : Int64) + (r277) := ⟨_, rfl⟩
                          rw [← ey279]
                          refine jx_go (tg := 82) rfl rfl ?_
                          have rl280 := i64_rg (y279)
                          refine jr_put (pc' := 85) (i := 14) (z := (y279 : Int64).toInt) rfl rfl (by decide) rfl rfl rfl rfl (congrArg Value.long (i64_of (y279))) rfl ?_
                          have hW281 : Wk (uG Gx 14 ((y279 : Int64).toInt)) Ax := Wk_g hWx (show (-9223372036854775808 : Int) ≤ (y279 : Int64).toInt by omega) (show (y279 : Int64).toInt ≤ (9223372036854775807 : Int) by omega)
                          have hF282 := Fr_g (z := (y279 : Int64).toInt) (i := 14) hFx (by decide)
                          refine jx_inc (pc' := 88) (l' := jSto1 L 1 (.int (i32 ((n + (1)))))) (x := n) rfl gL_1 (by decide) rfl rfl ?_
                          obtain ⟨L283, eL283⟩ : ∃ q, q = jSto1 L 1 (.int (i32 ((n + (1))))) := ⟨_, rfl⟩
                          rw [← eL283]
                          have gL283_0 : jGet L283 0 = some (.ref 66) := eL283 ▸ jg_ne (by decide) gL_0 rfl
                          have gL283_1 : jGet L283 1 = some (.int (i32 ((n + (1))))) := eL283 ▸ jg_eq
                          refine jx_ld (pc' := 89) (l' := L283) (st' := [.ref 66]) rfl (jl_aloadn gL283_0) ?_
                          refine jx_ar (pc' := 90) (st' := [.ref 66, .ref 66]) rfl rfl rfl rfl ?_
                          refine jr_get (pc' := 93) (i := 10) (v := .int (i32 (at1))) rfl rfl (by decide) (rFv_eq (by decide) (show (uG Gx 14 ((y279 : Int64).toInt)) 10 = at1 from (ex_at1))) rfl ?_
                          refine jx_ar (pc' := 94) (st' := [.int (i32 (1)), .int (i32 (at1)), .ref 66]) rfl rfl rfl rfl ?_
                          refine jx_add (pc' := 95) rfl rfl ?_
                          refine jr_put (pc' := 98) (i := 10) (z := (at1 + 1)) rfl rfl (by decide) rfl rfl rfl rfl rfl rfl ?_
                          have hW284 : Wk (uG (uG Gx 14 ((y279 : Int64).toInt)) 10 ((at1 + 1))) Ax := Wk_g hW281 (show (0 : Int) ≤ (at1 + 1) by omega) (show (at1 + 1) ≤ (3002 : Int) by omega)
                          have hF285 := Fr_g (z := (at1 + 1)) (i := 10) hF282 (by decide)
                          refine jx_go (tg := 7) rfl rfl ?_
                          exact ih _ (by omega) L283 (uG (uG Gx 14 ((y279 : Int64).toInt)) 10 ((at1 + 1))) Ax ((n + (1))) ((at1 + 1)) (A 0 ((at1 + 1)).toNat) rfl gL283_0 gL283_1 hW284 hF285 (rfl) ((congrFun (hFx.2 0 rfl) _)) (by omega) (by omega) (by omega) (by omega)
                  · have _q : True := trivial
                    refine jx_ar (pc' := 45) (st' := [.int (i32 (46)), .int (i32 (r238))]) rfl rfl rfl rfl ?_
                    refine jx_icmp_ne (pc' := 48) (tg := 101) rfl rfl rfl (by omega) (by omega) (by omega) (by omega) (fun h286 => ?_) (fun h286 => ?_)
                    · have _q := h286
                      refine jx_ld (pc' := 102) (l' := L) (st' := [.ref 66]) rfl (jl_aloadn gL_0) ?_
                      refine jx_ld (pc' := 103) (l' := L) (st' := [.int (i32 (n)), .ref 66]) rfl (jl_iloadn gL_1) ?_
                      refine jx_ar (pc' := 105) (st' := [.int (i32 (10)), .int (i32 (n)), .ref 66]) rfl rfl rfl rfl ?_
                      refine jx_icmp_le (pc' := 108) (tg := 112) rfl rfl rfl (by omega) (by omega) (by omega) (by omega) (fun h287 => ?_) (fun h287 => ?_)
                      · have _q := h287
                        refine jx_ar (pc' := 113) (st' := [.int (i32 (1)), .ref 66]) rfl rfl rfl rfl ?_
                        refine jr_put (pc' := 116) (i := 11) (z := 1) rfl rfl (by decide) rfl rfl rfl rfl rfl rfl ?_
                        have hW288 : Wk (uG Gx 11 (1)) Ax := Wk_g hWx (show (0 : Int) ≤ 1 by omega) (show 1 ≤ (5 : Int) by omega)
                        have hF289 := Fr_g (z := 1) (i := 11) hFx (by decide)
                        refine jx_rt (v := none) rfl rfl rfl rfl rfl rfl ?_
                        exact ⟨_, _, at1, 1, rfl, rfl, hW288, hF289, (ex_at1), rfl, by omega, by omega, by omega, trivial⟩
                      · have _q := h287
                        refine jx_ar (pc' := 109) (st' := [.int (i32 (5)), .ref 66]) rfl rfl rfl rfl ?_
                        refine jx_go (tg := 113) rfl rfl ?_
                        refine jr_put (pc' := 116) (i := 11) (z := 5) rfl rfl (by decide) rfl rfl rfl rfl rfl rfl ?_
                        have hW290 : Wk (uG Gx 11 (5)) Ax := Wk_g hWx (show (0 : Int) ≤ 5 by omega) (show 5 ≤ (5 : Int) by omega)
                        have hF291 := Fr_g (z := 5) (i := 11) hFx (by decide)
                        refine jx_rt (v := none) rfl rfl rfl rfl rfl rfl ?_
                        exact ⟨_, _, at1, 5, rfl, rfl, hW290, hF291, (ex_at1), rfl, by omega, by omega, by omega, trivial⟩
                    · have _q := h286
                      refine jx_ld (pc' := 49) (l' := L) (st' := [.ref 66]) rfl (jl_aloadn gL_0) ?_
                      refine jx_ld (pc' := 50) (l' := L) (st' := [.int (i32 (n)), .ref 66]) rfl (jl_iloadn gL_1) ?_
                      refine jx_ar (pc' := 52) (st' := [.int (i32 (10)), .int (i32 (n)), .ref 66]) rfl rfl rfl rfl ?_
                      refine jx_icmp_ge (pc' := 55) (tg := 78) rfl rfl rfl (by omega) (by omega) (by omega) (by omega) (fun h292 => ?_) (fun h292 => ?_)
                      · have _q := h292
                        refine jx_ld (pc' := 79) (l' := L) (st' := [.ref 66, .ref 66]) rfl (jl_aloadn gL_0) ?_
                        refine jr_get (pc' := 82) (i := 14) (v := .long (i64 (Gx 14))) rfl rfl (by decide) rfl rfl ?_
                        obtain ⟨y293, ey293⟩ : ∃ q : Int64, q = i64 (Gx 14) := ⟨_, rfl⟩
                        rw [← ey293]
                        have rl294 := i64_rg (y293)
                        refine jr_put (pc' := 85) (i := 14) (z := (y293 : Int64).toInt) rfl rfl (by decide) rfl rfl rfl rfl (congrArg Value.long (i64_of (y293))) rfl ?_
                        have hW295 : Wk (uG Gx 14 ((y293 : Int64).toInt)) Ax := Wk_g hWx (show (-9223372036854775808 : Int) ≤ (y293 : Int64).toInt by omega) (show (y293 : Int64).toInt ≤ (9223372036854775807 : Int) by omega)
                        have hF296 := Fr_g (z := (y293 : Int64).toInt) (i := 14) hFx (by decide)
                        refine jx_inc (pc' := 88) (l' := jSto1 L 1 (.int (i32 ((n + (1)))))) (x := n) rfl gL_1 (by decide) rfl rfl ?_
                        obtain ⟨L297, eL297⟩ : ∃ q, q = jSto1 L 1 (.int (i32 ((n + (1))))) := ⟨_, rfl⟩
                        rw [← eL297]
                        have gL297_0 : jGet L297 0 = some (.ref 66) := eL297 ▸ jg_ne (by decide) gL_0 rfl
                        have gL297_1 : jGet L297 1 = some (.int (i32 ((n + (1))))) := eL297 ▸ jg_eq
                        refine jx_ld (pc' := 89) (l' := L297) (st' := [.ref 66]) rfl (jl_aloadn gL297_0) ?_
                        refine jx_ar (pc' := 90) (st' := [.ref 66, .ref 66]) rfl rfl rfl rfl ?_
                        refine jr_get (pc' := 93) (i := 10) (v := .int (i32 (at1))) rfl rfl (by decide) (rFv_eq (by decide) (show (uG Gx 14 ((y293 : Int64).toInt)) 10 = at1 from (ex_at1))) rfl ?_
                        refine jx_ar (pc' := 94) (st' := [.int (i32 (1)), .int (i32 (at1)), .ref 66]) rfl rfl rfl rfl ?_
                        refine jx_add (pc' := 95) rfl rfl ?_
                        refine jr_put (pc' := 98) (i := 10) (z := (at1 + 1)) rfl rfl (by decide) rfl rfl rfl rfl rfl rfl ?_
                        have hW298 : Wk (uG (uG Gx 14 ((y293 : Int64).toInt)) 10 ((at1 + 1))) Ax := Wk_g hW295 (show (0 : Int) ≤ (at1 + 1) by omega) (show (at1 + 1) ≤ (3002 : Int) by omega)
                        have hF299 := Fr_g (z := (at1 + 1)) (i := 10) hF296 (by decide)
                        refine jx_go (tg := 7) rfl rfl ?_
                        exact ih _ (by omega) L297 (uG (uG Gx 14 ((y293 : Int64).toInt)) 10 ((at1 + 1))) Ax ((n + (1))) ((at1 + 1)) (A 0 ((at1 + 1)).toNat) rfl gL297_0 gL297_1 hW298 hF299 (rfl) ((congrFun (hFx.2 0 rfl) _)) (by omega) (by omega) (by omega) (by omega)
                      · have _q := h292
                        refine jx_hp (pc' := 58) (st' := [.long (38), .ref 66]) rfl rfl rfl rfl rfl rfl ?_
                        refine jx_ld (pc' := 59) (l' := L) (st' := [.ref 66, .long (38), .ref 66]) rfl (jl_aloadn gL_0) ?_
                        refine jr_get (pc' := 62) (i := 14) (v := .long (i64 (Gx 14))) rfl rfl (by decide) rfl rfl ?_
                        obtain ⟨y300, ey300⟩ : ∃ q : Int64, q = i64 (Gx 14) := ⟨_, rfl⟩
                        rw [← ey300]
                        refine jx_ar (pc' := 63) (st' := .long ((38 : Int64) * (y300)) :: [.ref 66]) rfl rfl rfl rfl ?_
                        obtain ⟨y301, ey301⟩ : ∃ q : Int64, q = (38 : Int64) * (y300) := ⟨_, rfl⟩
                        rw [← ey301]
                        refine jx_ld (pc' := 64) (l' := L) (st' := [.ref 66, .long (y301), .ref 66]) rfl (jl_aloadn gL_0) ?_
                        refine jx_ld (pc' := 65) (l' := L) (st' := [.ref 66, .ref 66, .long (y301), .ref 66]) rfl (jl_aloadn gL_0) ?_
                        refine jr_get (pc' := 68) (i := 10) (v := .int (i32 (at1))) rfl rfl (by decide) (rFv_eq (by decide) (show Gx 10 = at1 from (ex_at1))) rfl ?_
                        refine jx_vr (pc' := 71) (as := [.int (i32 (at1))]) (st := [.long (y301), .ref 66]) rfl rfl rfl rfl ⟨rfl, rfl, Nat.le_of_ble_eq_true rfl⟩ rfl rfl (c_sign (dd := d) (hd := by omega) (hW := hWx) (k := at1) (ln := ln) (e_ln := show Gx 9 = ln from ((hFx.1 9 rfl).trans (e_ln))) (le := le) (e_le := show Ax 4 (ln).toNat = le from (congrFun (hFx.2 4 rfl) _).trans (e_le)) (tx := cur) (e_tx := show Ax 0 (at1).toNat = cur from (ex_cur))  (h_k := by omega)  (p_0 := by omega)) (fun o V' hq => ?_)
                        obtain ⟨r302, rfl, rfl, b303, q304⟩ := hq
                        refine .inr ⟨_, rfl, ?_⟩
                        rcases q304 with ⟨a305, a306⟩ | ⟨a307, a308⟩
                        · have _q : True := trivial
                          refine jx_st (pc' := 74) (as := [.int (i32 (r302))]) (st := [.long (y301), .ref 66]) rfl rfl ⟨rfl, Nat.le_of_ble_eq_true rfl⟩ rfl rfl rfl (c_digit (dd := d) (hd := by omega) (c := r302)   (h_c := by omega)  ) (fun o V' hq => ?_)
                          obtain ⟨r309, rfl, rfl, -⟩ := hq
                          refine .inr ⟨_, rfl, ?_⟩
                          refine jx_ar (pc' := 75) (st' := .long ((y301 : Int64) + (r309)) :: [.ref 66]) rfl rfl rfl rfl ?_
                          obtain ⟨y311, ey311⟩ : ∃ q : Int64, q = (y301 : Int64) + (r309) := ⟨_, rfl⟩
                          rw [← ey311]
                          refine jx_go (tg := 82) rfl rfl ?_
                          have rl312 := i64_rg (y311)
                          refine jr_put (pc' := 85) (i := 14) (z := (y311 : Int64).toInt) rfl rfl (by decide) rfl rfl rfl rfl (congrArg Value.long (i64_of (y311))) rfl ?_
                          have hW313 : Wk (uG Gx 14 ((y311 : Int64).toInt)) Ax := Wk_g hWx (show (-9223372036854775808 : Int) ≤ (y311 : Int64).toInt by omega) (show (y311 : Int64).toInt ≤ (9223372036854775807 : Int) by omega)
                          have hF314 := Fr_g (z := (y311 : Int64).toInt) (i := 14) hFx (by decide)
                          refine jx_inc (pc' := 88) (l' := jSto1 L 1 (.int (i32 ((n + (1)))))) (x := n) rfl gL_1 (by decide) rfl rfl ?_
                          obtain ⟨L315, eL315⟩ : ∃ q, q = jSto1 L 1 (.int (i32 ((n + (1))))) := ⟨_, rfl⟩
                          rw [← eL315]
                          have gL315_0 : jGet L315 0 = some (.ref 66) := eL315 ▸ jg_ne (by decide) gL_0 rfl
                          have gL315_1 : jGet L315 1 = some (.int (i32 ((n + (1))))) := eL315 ▸ jg_eq
                          refine jx_ld (pc' := 89) (l' := L315) (st' := [.ref 66]) rfl (jl_aloadn gL315_0) ?_
                          refine jx_ar (pc' := 90) (st' := [.ref 66, .ref 66]) rfl rfl rfl rfl ?_
                          refine jr_get (pc' := 93) (i := 10) (v := .int (i32 (at1))) rfl rfl (by decide) (rFv_eq (by decide) (show (uG Gx 14 ((y311 : Int64).toInt)) 10 = at1 from (ex_at1))) rfl ?_
                          refine jx_ar (pc' := 94) (st' := [.int (i32 (1)), .int (i32 (at1)), .ref 66]) rfl rfl rfl rfl ?_
                          refine jx_add (pc' := 95) rfl rfl ?_
                          refine jr_put (pc' := 98) (i := 10) (z := (at1 + 1)) rfl rfl (by decide) rfl rfl rfl rfl rfl rfl ?_
                          have hW316 : Wk (uG (uG Gx 14 ((y311 : Int64).toInt)) 10 ((at1 + 1))) Ax := Wk_g hW313 (show (0 : Int) ≤ (at1 + 1) by omega) (show (at1 + 1) ≤ (3002 : Int) by omega)
                          have hF317 := Fr_g (z := (at1 + 1)) (i := 10) hF314 (by decide)
                          refine jx_go (tg := 7) rfl rfl ?_
                          exact ih _ (by omega) L315 (uG (uG Gx 14 ((y311 : Int64).toInt)) 10 ((at1 + 1))) Ax ((n + (1))) ((at1 + 1)) (A 0 ((at1 + 1)).toNat) rfl gL315_0 gL315_1 hW316 hF317 (rfl) ((congrFun (hFx.2 0 rfl) _)) (by omega) (by omega) (by omega) (by omega)
                        · have _q : True := trivial
                          refine jx_st (pc' := 74) (as := [.int (i32 (r302))]) (st := [.long (y301), .ref 66]) rfl rfl ⟨rfl, Nat.le_of_ble_eq_true rfl⟩ rfl rfl rfl (c_digit (dd := d) (hd := by omega) (c := r302)   (h_c := by omega)  ) (fun o V' hq => ?_)
                          obtain ⟨r318, rfl, rfl, -⟩ := hq
                          refine .inr ⟨_, rfl, ?_⟩
                          refine jx_ar (pc' := 75) (st' := .long ((y301 : Int64) + (r318)) :: [.ref 66]) rfl rfl rfl rfl ?_
                          obtain ⟨y320, ey320⟩ : ∃ q : Int64, q = (y301 : Int64) + (r318) := ⟨_, rfl⟩
                          rw [← ey320]
                          refine jx_go (tg := 82) rfl rfl ?_
                          have rl321 := i64_rg (y320)
                          refine jr_put (pc' := 85) (i := 14) (z := (y320 : Int64).toInt) rfl rfl (by decide) rfl rfl rfl rfl (congrArg Value.long (i64_of (y320))) rfl ?_
                          have hW322 : Wk (uG Gx 14 ((y320 : Int64).toInt)) Ax := Wk_g hWx (show (-9223372036854775808 : Int) ≤ (y320 : Int64).toInt by omega) (show (y320 : Int64).toInt ≤ (9223372036854775807 : Int) by omega)
                          have hF323 := Fr_g (z := (y320 : Int64).toInt) (i := 14) hFx (by decide)
                          refine jx_inc (pc' := 88) (l' := jSto1 L 1 (.int (i32 ((n + (1)))))) (x := n) rfl gL_1 (by decide) rfl rfl ?_
                          obtain ⟨L324, eL324⟩ : ∃ q, q = jSto1 L 1 (.int (i32 ((n + (1))))) := ⟨_, rfl⟩
                          rw [← eL324]
                          have gL324_0 : jGet L324 0 = some (.ref 66) := eL324 ▸ jg_ne (by decide) gL_0 rfl
                          have gL324_1 : jGet L324 1 = some (.int (i32 ((n + (1))))) := eL324 ▸ jg_eq
                          refine jx_ld (pc' := 89) (l' := L324) (st' := [.ref 66]) rfl (jl_aloadn gL324_0) ?_
                          refine jx_ar (pc' := 90) (st' := [.ref 66, .ref 66]) rfl rfl rfl rfl ?_
                          refine jr_get (pc' := 93) (i := 10) (v := .int (i32 (at1))) rfl rfl (by decide) (rFv_eq (by decide) (show (uG Gx 14 ((y320 : Int64).toInt)) 10 = at1 from (ex_at1))) rfl ?_
                          refine jx_ar (pc' := 94) (st' := [.int (i32 (1)), .int (i32 (at1)), .ref 66]) rfl rfl rfl rfl ?_
                          refine jx_add (pc' := 95) rfl rfl ?_
                          refine jr_put (pc' := 98) (i := 10) (z := (at1 + 1)) rfl rfl (by decide) rfl rfl rfl rfl rfl rfl ?_
                          have hW325 : Wk (uG (uG Gx 14 ((y320 : Int64).toInt)) 10 ((at1 + 1))) Ax := Wk_g hW322 (show (0 : Int) ≤ (at1 + 1) by omega) (show (at1 + 1) ≤ (3002 : Int) by omega)
                          have hF326 := Fr_g (z := (at1 + 1)) (i := 10) hF323 (by decide)
                          refine jx_go (tg := 7) rfl rfl ?_
                          exact ih _ (by omega) L324 (uG (uG Gx 14 ((y320 : Int64).toInt)) 10 ((at1 + 1))) Ax ((n + (1))) ((at1 + 1)) (A 0 ((at1 + 1)).toNat) rfl gL324_0 gL324_1 hW325 hF326 (rfl) ((congrFun (hFx.2 0 rfl) _)) (by omega) (by omega) (by omega) (by omega)
      · have _q : True := trivial
        refine jx_st (pc' := 18) (as := [.int (i32 (r6))]) (st := []) rfl rfl ⟨rfl, Nat.le_of_ble_eq_true rfl⟩ rfl rfl rfl (c_isSmall (dd := d) (hd := by omega) (v := r6)   (h_v := by omega)  ) (fun o V' hq => ?_)
        obtain ⟨r327, rfl, rfl, b328, q329⟩ := hq
        refine .inr ⟨_, rfl, ?_⟩
        rcases q329 with ⟨rfl, a330, a331⟩ | ⟨rfl, a332⟩
        · have _q : True := trivial
          refine jx_if_ne (pc' := 21) (tg := 48) rfl rfl rfl (by omega) (by omega) (fun h333 => ?_) (fun h333 => ?_)
          · have _q := h333
            refine jx_ld (pc' := 49) (l' := L) (st' := [.ref 66]) rfl (jl_aloadn gL_0) ?_
            refine jx_ld (pc' := 50) (l' := L) (st' := [.int (i32 (n)), .ref 66]) rfl (jl_iloadn gL_1) ?_
            refine jx_ar (pc' := 52) (st' := [.int (i32 (10)), .int (i32 (n)), .ref 66]) rfl rfl rfl rfl ?_
            refine jx_icmp_ge (pc' := 55) (tg := 78) rfl rfl rfl (by omega) (by omega) (by omega) (by omega) (fun h334 => ?_) (fun h334 => ?_)
            · have _q := h334
              refine jx_ld (pc' := 79) (l' := L) (st' := [.ref 66, .ref 66]) rfl (jl_aloadn gL_0) ?_
              refine jr_get (pc' := 82) (i := 14) (v := .long (i64 (Gx 14))) rfl rfl (by decide) rfl rfl ?_
              obtain ⟨y335, ey335⟩ : ∃ q : Int64, q = i64 (Gx 14) := ⟨_, rfl⟩
              rw [← ey335]
              have rl336 := i64_rg (y335)
              refine jr_put (pc' := 85) (i := 14) (z := (y335 : Int64).toInt) rfl rfl (by decide) rfl rfl rfl rfl (congrArg Value.long (i64_of (y335))) rfl ?_
              have hW337 : Wk (uG Gx 14 ((y335 : Int64).toInt)) Ax := Wk_g hWx (show (-9223372036854775808 : Int) ≤ (y335 : Int64).toInt by omega) (show (y335 : Int64).toInt ≤ (9223372036854775807 : Int) by omega)
              have hF338 := Fr_g (z := (y335 : Int64).toInt) (i := 14) hFx (by decide)
              refine jx_inc (pc' := 88) (l' := jSto1 L 1 (.int (i32 ((n + (1)))))) (x := n) rfl gL_1 (by decide) rfl rfl ?_
              obtain ⟨L339, eL339⟩ : ∃ q, q = jSto1 L 1 (.int (i32 ((n + (1))))) := ⟨_, rfl⟩
              rw [← eL339]
              have gL339_0 : jGet L339 0 = some (.ref 66) := eL339 ▸ jg_ne (by decide) gL_0 rfl
              have gL339_1 : jGet L339 1 = some (.int (i32 ((n + (1))))) := eL339 ▸ jg_eq
              refine jx_ld (pc' := 89) (l' := L339) (st' := [.ref 66]) rfl (jl_aloadn gL339_0) ?_
              refine jx_ar (pc' := 90) (st' := [.ref 66, .ref 66]) rfl rfl rfl rfl ?_
              refine jr_get (pc' := 93) (i := 10) (v := .int (i32 (at1))) rfl rfl (by decide) (rFv_eq (by decide) (show (uG Gx 14 ((y335 : Int64).toInt)) 10 = at1 from (ex_at1))) rfl ?_
              refine jx_ar (pc' := 94) (st' := [.int (i32 (1)), .int (i32 (at1)), .ref 66]) rfl rfl rfl rfl ?_
              refine jx_add (pc' := 95) rfl rfl ?_
              refine jr_put (pc' := 98) (i := 10) (z := (at1 + 1)) rfl rfl (by decide) rfl rfl rfl rfl rfl rfl ?_
              have hW340 : Wk (uG (uG Gx 14 ((y335 : Int64).toInt)) 10 ((at1 + 1))) Ax := Wk_g hW337 (show (0 : Int) ≤ (at1 + 1) by omega) (show (at1 + 1) ≤ (3002 : Int) by omega)
              have hF341 := Fr_g (z := (at1 + 1)) (i := 10) hF338 (by decide)
              refine jx_go (tg := 7) rfl rfl ?_
              exact ih _ (by omega) L339 (uG (uG Gx 14 ((y335 : Int64).toInt)) 10 ((at1 + 1))) Ax ((n + (1))) ((at1 + 1)) (A 0 ((at1 + 1)).toNat) rfl gL339_0 gL339_1 hW340 hF341 (rfl) ((congrFun (hFx.2 0 rfl) _)) (by omega) (by omega) (by omega) (by omega)
            · have _q := h334
              refine jx_hp (pc' := 58) (st' := [.long (38), .ref 66]) rfl rfl rfl rfl rfl rfl ?_
              refine jx_ld (pc' := 59) (l' := L) (st' := [.ref 66, .long (38), .ref 66]) rfl (jl_aloadn gL_0) ?_
              refine jr_get (pc' := 62) (i := 14) (v := .long (i64 (Gx 14))) rfl rfl (by decide) rfl rfl ?_
              obtain ⟨y342, ey342⟩ : ∃ q : Int64, q = i64 (Gx 14) := ⟨_, rfl⟩
              rw [← ey342]
              refine jx_ar (pc' := 63) (st' := .long ((38 : Int64) * (y342)) :: [.ref 66]) rfl rfl rfl rfl ?_
              obtain ⟨y343, ey343⟩ : ∃ q : Int64, q = (38 : Int64) * (y342) := ⟨_, rfl⟩
              rw [← ey343]
              refine jx_ld (pc' := 64) (l' := L) (st' := [.ref 66, .long (y343), .ref 66]) rfl (jl_aloadn gL_0) ?_
              refine jx_ld (pc' := 65) (l' := L) (st' := [.ref 66, .ref 66, .long (y343), .ref 66]) rfl (jl_aloadn gL_0) ?_
              refine jr_get (pc' := 68) (i := 10) (v := .int (i32 (at1))) rfl rfl (by decide) (rFv_eq (by decide) (show Gx 10 = at1 from (ex_at1))) rfl ?_
              refine jx_vr (pc' := 71) (as := [.int (i32 (at1))]) (st := [.long (y343), .ref 66]) rfl rfl rfl rfl ⟨rfl, rfl, Nat.le_of_ble_eq_true rfl⟩ rfl rfl (c_sign (dd := d) (hd := by omega) (hW := hWx) (k := at1) (ln := ln) (e_ln := show Gx 9 = ln from ((hFx.1 9 rfl).trans (e_ln))) (le := le) (e_le := show Ax 4 (ln).toNat = le from (congrFun (hFx.2 4 rfl) _).trans (e_le)) (tx := cur) (e_tx := show Ax 0 (at1).toNat = cur from (ex_cur))  (h_k := by omega)  (p_0 := by omega)) (fun o V' hq => ?_)
              obtain ⟨r344, rfl, rfl, b345, q346⟩ := hq
              refine .inr ⟨_, rfl, ?_⟩
              rcases q346 with ⟨a347, a348⟩ | ⟨a349, a350⟩
              · have _q : True := trivial
                refine jx_st (pc' := 74) (as := [.int (i32 (r344))]) (st := [.long (y343), .ref 66]) rfl rfl ⟨rfl, Nat.le_of_ble_eq_true rfl⟩ rfl rfl rfl (c_digit (dd := d) (hd := by omega) (c := r344)   (h_c := by omega)  ) (fun o V' hq => ?_)
                obtain ⟨r351, rfl, rfl, -⟩ := hq
                refine .inr ⟨_, rfl, ?_⟩
                refine jx_ar (pc' := 75) (st' := .long ((y343 : Int64) + (r351)) :: [.ref 66]) rfl rfl rfl rfl ?_
                obtain ⟨y353, ey353⟩ : ∃ q : Int64, q = (y343 : Int64) + (r351) := ⟨_, rfl⟩
                rw [← ey353]
                refine jx_go (tg := 82) rfl rfl ?_
                have rl354 := i64_rg (y353)
                refine jr_put (pc' := 85) (i := 14) (z := (y353 : Int64).toInt) rfl rfl (by decide) rfl rfl rfl rfl (congrArg Value.long (i64_of (y353))) rfl ?_
                have hW355 : Wk (uG Gx 14 ((y353 : Int64).toInt)) Ax := Wk_g hWx (show (-9223372036854775808 : Int) ≤ (y353 : Int64).toInt by omega) (show (y353 : Int64).toInt ≤ (9223372036854775807 : Int) by omega)
                have hF356 := Fr_g (z := (y353 : Int64).toInt) (i := 14) hFx (by decide)
                refine jx_inc (pc' := 88) (l' := jSto1 L 1 (.int (i32 ((n + (1)))))) (x := n) rfl gL_1 (by decide) rfl rfl ?_
                obtain ⟨L357, eL357⟩ : ∃ q, q = jSto1 L 1 (.int (i32 ((n + (1))))) := ⟨_, rfl⟩
                rw [← eL357]
                have gL357_0 : jGet L357 0 = some (.ref 66) := eL357 ▸ jg_ne (by decide) gL_0 rfl
                have gL357_1 : jGet L357 1 = some (.int (i32 ((n + (1))))) := eL357 ▸ jg_eq
                refine jx_ld (pc' := 89) (l' := L357) (st' := [.ref 66]) rfl (jl_aloadn gL357_0) ?_
                refine jx_ar (pc' := 90) (st' := [.ref 66, .ref 66]) rfl rfl rfl rfl ?_
                refine jr_get (pc' := 93) (i := 10) (v := .int (i32 (at1))) rfl rfl (by decide) (rFv_eq (by decide) (show (uG Gx 14 ((y353 : Int64).toInt)) 10 = at1 from (ex_at1))) rfl ?_
                refine jx_ar (pc' := 94) (st' := [.int (i32 (1)), .int (i32 (at1)), .ref 66]) rfl rfl rfl rfl ?_
                refine jx_add (pc' := 95) rfl rfl ?_
                refine jr_put (pc' := 98) (i := 10) (z := (at1 + 1)) rfl rfl (by decide) rfl rfl rfl rfl rfl rfl ?_
                have hW358 : Wk (uG (uG Gx 14 ((y353 : Int64).toInt)) 10 ((at1 + 1))) Ax := Wk_g hW355 (show (0 : Int) ≤ (at1 + 1) by omega) (show (at1 + 1) ≤ (3002 : Int) by omega)
                have hF359 := Fr_g (z := (at1 + 1)) (i := 10) hF356 (by decide)
                refine jx_go (tg := 7) rfl rfl ?_
                exact ih _ (by omega) L357 (uG (uG Gx 14 ((y353 : Int64).toInt)) 10 ((at1 + 1))) Ax ((n + (1))) ((at1 + 1)) (A 0 ((at1 + 1)).toNat) rfl gL357_0 gL357_1 hW358 hF359 (rfl) ((congrFun (hFx.2 0 rfl) _)) (by omega) (by omega) (by omega) (by omega)
              · have _q : True := trivial
                refine jx_st (pc' := 74) (as := [.int (i32 (r344))]) (st := [.long (y343), .ref 66]) rfl rfl ⟨rfl, Nat.le_of_ble_eq_true rfl⟩ rfl rfl rfl (c_digit (dd := d) (hd := by omega) (c := r344)   (h_c := by omega)  ) (fun o V' hq => ?_)
                obtain ⟨r360, rfl, rfl, -⟩ := hq
                refine .inr ⟨_, rfl, ?_⟩
                refine jx_ar (pc' := 75) (st' := .long ((y343 : Int64) + (r360)) :: [.ref 66]) rfl rfl rfl rfl ?_
                obtain ⟨y362, ey362⟩ : ∃ q : Int64, q = (y343 : Int64) + (r360) := ⟨_, rfl⟩
                rw [← ey362]
                refine jx_go (tg := 82) rfl rfl ?_
                have rl363 := i64_rg (y362)
                refine jr_put (pc' := 85) (i := 14) (z := (y362 : Int64).toInt) rfl rfl (by decide) rfl rfl rfl rfl (congrArg Value.long (i64_of (y362))) rfl ?_
                have hW364 : Wk (uG Gx 14 ((y362 : Int64).toInt)) Ax := Wk_g hWx (show (-9223372036854775808 : Int) ≤ (y362 : Int64).toInt by omega) (show (y362 : Int64).toInt ≤ (9223372036854775807 : Int) by omega)
                have hF365 := Fr_g (z := (y362 : Int64).toInt) (i := 14) hFx (by decide)
                refine jx_inc (pc' := 88) (l' := jSto1 L 1 (.int (i32 ((n + (1)))))) (x := n) rfl gL_1 (by decide) rfl rfl ?_
                obtain ⟨L366, eL366⟩ : ∃ q, q = jSto1 L 1 (.int (i32 ((n + (1))))) := ⟨_, rfl⟩
                rw [← eL366]
                have gL366_0 : jGet L366 0 = some (.ref 66) := eL366 ▸ jg_ne (by decide) gL_0 rfl
                have gL366_1 : jGet L366 1 = some (.int (i32 ((n + (1))))) := eL366 ▸ jg_eq
                refine jx_ld (pc' := 89) (l' := L366) (st' := [.ref 66]) rfl (jl_aloadn gL366_0) ?_
                refine jx_ar (pc' := 90) (st' := [.ref 66, .ref 66]) rfl rfl rfl rfl ?_
                refine jr_get (pc' := 93) (i := 10) (v := .int (i32 (at1))) rfl rfl (by decide) (rFv_eq (by decide) (show (uG Gx 14 ((y362 : Int64).toInt)) 10 = at1 from (ex_at1))) rfl ?_
                refine jx_ar (pc' := 94) (st' := [.int (i32 (1)), .int (i32 (at1)), .ref 66]) rfl rfl rfl rfl ?_
                refine jx_add (pc' := 95) rfl rfl ?_
                refine jr_put (pc' := 98) (i := 10) (z := (at1 + 1)) rfl rfl (by decide) rfl rfl rfl rfl rfl rfl ?_
                have hW367 : Wk (uG (uG Gx 14 ((y362 : Int64).toInt)) 10 ((at1 + 1))) Ax := Wk_g hW364 (show (0 : Int) ≤ (at1 + 1) by omega) (show (at1 + 1) ≤ (3002 : Int) by omega)
                have hF368 := Fr_g (z := (at1 + 1)) (i := 10) hF365 (by decide)
                refine jx_go (tg := 7) rfl rfl ?_
                exact ih _ (by omega) L366 (uG (uG Gx 14 ((y362 : Int64).toInt)) 10 ((at1 + 1))) Ax ((n + (1))) ((at1 + 1)) (A 0 ((at1 + 1)).toNat) rfl gL366_0 gL366_1 hW367 hF368 (rfl) ((congrFun (hFx.2 0 rfl) _)) (by omega) (by omega) (by omega) (by omega)
          · have _q := h333
            exact absurd h333 (by omega)
        · have _q : True := trivial
          refine jx_if_ne (pc' := 21) (tg := 48) rfl rfl rfl (by omega) (by omega) (fun h369 => ?_) (fun h369 => ?_)
          · have _q := h369
            exact absurd h369 (by omega)
          · have _q := h369
            refine jx_ld (pc' := 22) (l' := L) (st' := [.ref 66]) rfl (jl_aloadn gL_0) ?_
            refine jx_ld (pc' := 23) (l' := L) (st' := [.ref 66, .ref 66]) rfl (jl_aloadn gL_0) ?_
            refine jr_get (pc' := 26) (i := 10) (v := .int (i32 (at1))) rfl rfl (by decide) (rFv_eq (by decide) (show Gx 10 = at1 from (ex_at1))) rfl ?_
            refine jx_vr (pc' := 29) (as := [.int (i32 (at1))]) (st := []) rfl rfl rfl rfl ⟨rfl, rfl, Nat.le_of_ble_eq_true rfl⟩ rfl rfl (c_sign (dd := d) (hd := by omega) (hW := hWx) (k := at1) (ln := ln) (e_ln := show Gx 9 = ln from ((hFx.1 9 rfl).trans (e_ln))) (le := le) (e_le := show Ax 4 (ln).toNat = le from (congrFun (hFx.2 4 rfl) _).trans (e_le)) (tx := cur) (e_tx := show Ax 0 (at1).toNat = cur from (ex_cur))  (h_k := by omega)  (p_0 := by omega)) (fun o V' hq => ?_)
            obtain ⟨r370, rfl, rfl, b371, q372⟩ := hq
            refine .inr ⟨_, rfl, ?_⟩
            rcases q372 with ⟨a373, a374⟩ | ⟨a375, a376⟩
            · have _q : True := trivial
              refine jx_st (pc' := 32) (as := [.int (i32 (r370))]) (st := []) rfl rfl ⟨rfl, Nat.le_of_ble_eq_true rfl⟩ rfl rfl rfl (c_isDigit (dd := d) (hd := by omega) (v := r370)   (h_v := by omega)  ) (fun o V' hq => ?_)
              obtain ⟨r377, rfl, rfl, b378, q379⟩ := hq
              refine .inr ⟨_, rfl, ?_⟩
              rcases q379 with ⟨rfl, a380, a381⟩ | ⟨rfl, a382⟩
              · have _q : True := trivial
                refine jx_if_ne (pc' := 35) (tg := 48) rfl rfl rfl (by omega) (by omega) (fun h383 => ?_) (fun h383 => ?_)
                · have _q := h383
                  refine jx_ld (pc' := 49) (l' := L) (st' := [.ref 66]) rfl (jl_aloadn gL_0) ?_
                  refine jx_ld (pc' := 50) (l' := L) (st' := [.int (i32 (n)), .ref 66]) rfl (jl_iloadn gL_1) ?_
                  refine jx_ar (pc' := 52) (st' := [.int (i32 (10)), .int (i32 (n)), .ref 66]) rfl rfl rfl rfl ?_
                  refine jx_icmp_ge (pc' := 55) (tg := 78) rfl rfl rfl (by omega) (by omega) (by omega) (by omega) (fun h384 => ?_) (fun h384 => ?_)
                  · have _q := h384
                    refine jx_ld (pc' := 79) (l' := L) (st' := [.ref 66, .ref 66]) rfl (jl_aloadn gL_0) ?_
                    refine jr_get (pc' := 82) (i := 14) (v := .long (i64 (Gx 14))) rfl rfl (by decide) rfl rfl ?_
                    obtain ⟨y385, ey385⟩ : ∃ q : Int64, q = i64 (Gx 14) := ⟨_, rfl⟩
                    rw [← ey385]
                    have rl386 := i64_rg (y385)
                    refine jr_put (pc' := 85) (i := 14) (z := (y385 : Int64).toInt) rfl rfl (by decide) rfl rfl rfl rfl (congrArg Value.long (i64_of (y385))) rfl ?_
                    have hW387 : Wk (uG Gx 14 ((y385 : Int64).toInt)) Ax := Wk_g hWx (show (-9223372036854775808 : Int) ≤ (y385 : Int64).toInt by omega) (show (y385 : Int64).toInt ≤ (9223372036854775807 : Int) by omega)
                    have hF388 := Fr_g (z := (y385 : Int64).toInt) (i := 14) hFx (by decide)
                    refine jx_inc (pc' := 88) (l' := jSto1 L 1 (.int (i32 ((n + (1)))))) (x := n) rfl gL_1 (by decide) rfl rfl ?_
                    obtain ⟨L389, eL389⟩ : ∃ q, q = jSto1 L 1 (.int (i32 ((n + (1))))) := ⟨_, rfl⟩
                    rw [← eL389]
                    have gL389_0 : jGet L389 0 = some (.ref 66) := eL389 ▸ jg_ne (by decide) gL_0 rfl
                    have gL389_1 : jGet L389 1 = some (.int (i32 ((n + (1))))) := eL389 ▸ jg_eq
                    refine jx_ld (pc' := 89) (l' := L389) (st' := [.ref 66]) rfl (jl_aloadn gL389_0) ?_
                    refine jx_ar (pc' := 90) (st' := [.ref 66, .ref 66]) rfl rfl rfl rfl ?_
                    refine jr_get (pc' := 93) (i := 10) (v := .int (i32 (at1))) rfl rfl (by decide) (rFv_eq (by decide) (show (uG Gx 14 ((y385 : Int64).toInt)) 10 = at1 from (ex_at1))) rfl ?_
                    refine jx_ar (pc' := 94) (st' := [.int (i32 (1)), .int (i32 (at1)), .ref 66]) rfl rfl rfl rfl ?_
                    refine jx_add (pc' := 95) rfl rfl ?_
                    refine jr_put (pc' := 98) (i := 10) (z := (at1 + 1)) rfl rfl (by decide) rfl rfl rfl rfl rfl rfl ?_
                    have hW390 : Wk (uG (uG Gx 14 ((y385 : Int64).toInt)) 10 ((at1 + 1))) Ax := Wk_g hW387 (show (0 : Int) ≤ (at1 + 1) by omega) (show (at1 + 1) ≤ (3002 : Int) by omega)
                    have hF391 := Fr_g (z := (at1 + 1)) (i := 10) hF388 (by decide)
                    refine jx_go (tg := 7) rfl rfl ?_
                    exact ih _ (by omega) L389 (uG (uG Gx 14 ((y385 : Int64).toInt)) 10 ((at1 + 1))) Ax ((n + (1))) ((at1 + 1)) (A 0 ((at1 + 1)).toNat) rfl gL389_0 gL389_1 hW390 hF391 (rfl) ((congrFun (hFx.2 0 rfl) _)) (by omega) (by omega) (by omega) (by omega)
                  · have _q := h384
                    refine jx_hp (pc' := 58) (st' := [.long (38), .ref 66]) rfl rfl rfl rfl rfl rfl ?_
                    refine jx_ld (pc' := 59) (l' := L) (st' := [.ref 66, .long (38), .ref 66]) rfl (jl_aloadn gL_0) ?_
                    refine jr_get (pc' := 62) (i := 14) (v := .long (i64 (Gx 14))) rfl rfl (by decide) rfl rfl ?_
                    obtain ⟨y392, ey392⟩ : ∃ q : Int64, q = i64 (Gx 14) := ⟨_, rfl⟩
                    rw [← ey392]
                    refine jx_ar (pc' := 63) (st' := .long ((38 : Int64) * (y392)) :: [.ref 66]) rfl rfl rfl rfl ?_
                    obtain ⟨y393, ey393⟩ : ∃ q : Int64, q = (38 : Int64) * (y392) := ⟨_, rfl⟩
                    rw [← ey393]
                    refine jx_ld (pc' := 64) (l' := L) (st' := [.ref 66, .long (y393), .ref 66]) rfl (jl_aloadn gL_0) ?_
                    refine jx_ld (pc' := 65) (l' := L) (st' := [.ref 66, .ref 66, .long (y393), .ref 66]) rfl (jl_aloadn gL_0) ?_
                    refine jr_get (pc' := 68) (i := 10) (v := .int (i32 (at1))) rfl rfl (by decide) (rFv_eq (by decide) (show Gx 10 = at1 from (ex_at1))) rfl ?_
                    refine jx_vr (pc' := 71) (as := [.int (i32 (at1))]) (st := [.long (y393), .ref 66]) rfl rfl rfl rfl ⟨rfl, rfl, Nat.le_of_ble_eq_true rfl⟩ rfl rfl (c_sign (dd := d) (hd := by omega) (hW := hWx) (k := at1) (ln := ln) (e_ln := show Gx 9 = ln from ((hFx.1 9 rfl).trans (e_ln))) (le := le) (e_le := show Ax 4 (ln).toNat = le from (congrFun (hFx.2 4 rfl) _).trans (e_le)) (tx := cur) (e_tx := show Ax 0 (at1).toNat = cur from (ex_cur))  (h_k := by omega)  (p_0 := by omega)) (fun o V' hq => ?_)
                    obtain ⟨r394, rfl, rfl, b395, q396⟩ := hq
                    refine .inr ⟨_, rfl, ?_⟩
                    rcases q396 with ⟨a397, a398⟩ | ⟨a399, a400⟩
                    · have _q : True := trivial
                      refine jx_st (pc' := 74) (as := [.int (i32 (r394))]) (st := [.long (y393), .ref 66]) rfl rfl ⟨rfl, Nat.le_of_ble_eq_true rfl⟩ rfl rfl rfl (c_digit (dd := d) (hd := by omega) (c := r394)   (h_c := by omega)  ) (fun o V' hq => ?_)
                      obtain ⟨r401, rfl, rfl, -⟩ := hq
                      refine .inr ⟨_, rfl, ?_⟩
                      refine jx_ar (pc' := 75) (st' := .long ((y393 : Int64) + (r401)) :: [.ref 66]) rfl rfl rfl rfl ?_
                      obtain ⟨y403, ey403⟩ : ∃ q : Int64, q = (y393 : Int64) + (r401) := ⟨_, rfl⟩
                      rw [← ey403]
                      refine jx_go (tg := 82) rfl rfl ?_
                      have rl404 := i64_rg (y403)
                      refine jr_put (pc' := 85) (i := 14) (z := (y403 : Int64).toInt) rfl rfl (by decide) rfl rfl rfl rfl (congrArg Value.long (i64_of (y403))) rfl ?_
                      have hW405 : Wk (uG Gx 14 ((y403 : Int64).toInt)) Ax := Wk_g hWx (show (-9223372036854775808 : Int) ≤ (y403 : Int64).toInt by omega) (show (y403 : Int64).toInt ≤ (9223372036854775807 : Int) by omega)
                      have hF406 := Fr_g (z := (y403 : Int64).toInt) (i := 14) hFx (by decide)
                      refine jx_inc (pc' := 88) (l' := jSto1 L 1 (.int (i32 ((n + (1)))))) (x := n) rfl gL_1 (by decide) rfl rfl ?_
                      obtain ⟨L407, eL407⟩ : ∃ q, q = jSto1 L 1 (.int (i32 ((n + (1))))) := ⟨_, rfl⟩
                      rw [← eL407]
                      have gL407_0 : jGet L407 0 = some (.ref 66) := eL407 ▸ jg_ne (by decide) gL_0 rfl
                      have gL407_1 : jGet L407 1 = some (.int (i32 ((n + (1))))) := eL407 ▸ jg_eq
                      refine jx_ld (pc' := 89) (l' := L407) (st' := [.ref 66]) rfl (jl_aloadn gL407_0) ?_
                      refine jx_ar (pc' := 90) (st' := [.ref 66, .ref 66]) rfl rfl rfl rfl ?_
                      refine jr_get (pc' := 93) (i := 10) (v := .int (i32 (at1))) rfl rfl (by decide) (rFv_eq (by decide) (show (uG Gx 14 ((y403 : Int64).toInt)) 10 = at1 from (ex_at1))) rfl ?_
                      refine jx_ar (pc' := 94) (st' := [.int (i32 (1)), .int (i32 (at1)), .ref 66]) rfl rfl rfl rfl ?_
                      refine jx_add (pc' := 95) rfl rfl ?_
                      refine jr_put (pc' := 98) (i := 10) (z := (at1 + 1)) rfl rfl (by decide) rfl rfl rfl rfl rfl rfl ?_
                      have hW408 : Wk (uG (uG Gx 14 ((y403 : Int64).toInt)) 10 ((at1 + 1))) Ax := Wk_g hW405 (show (0 : Int) ≤ (at1 + 1) by omega) (show (at1 + 1) ≤ (3002 : Int) by omega)
                      have hF409 := Fr_g (z := (at1 + 1)) (i := 10) hF406 (by decide)
                      refine jx_go (tg := 7) rfl rfl ?_
                      exact ih _ (by omega) L407 (uG (uG Gx 14 ((y403 : Int64).toInt)) 10 ((at1 + 1))) Ax ((n + (1))) ((at1 + 1)) (A 0 ((at1 + 1)).toNat) rfl gL407_0 gL407_1 hW408 hF409 (rfl) ((congrFun (hFx.2 0 rfl) _)) (by omega) (by omega) (by omega) (by omega)
                    · have _q : True := trivial
                      refine jx_st (pc' := 74) (as := [.int (i32 (r394))]) (st := [.long (y393), .ref 66]) rfl rfl ⟨rfl, Nat.le_of_ble_eq_true rfl⟩ rfl rfl rfl (c_digit (dd := d) (hd := by omega) (c := r394)   (h_c := by omega)  ) (fun o V' hq => ?_)
                      obtain ⟨r410, rfl, rfl, -⟩ := hq
                      refine .inr ⟨_, rfl, ?_⟩
                      refine jx_ar (pc' := 75) (st' := .long ((y393 : Int64) + (r410)) :: [.ref 66]) rfl rfl rfl rfl ?_
                      obtain ⟨y412, ey412⟩ : ∃ q : Int64, q = (y393 : Int64) + (r410) := ⟨_, rfl⟩
                      rw [← ey412]
                      refine jx_go (tg := 82) rfl rfl ?_
                      have rl413 := i64_rg (y412)
                      refine jr_put (pc' := 85) (i := 14) (z := (y412 : Int64).toInt) rfl rfl (by decide) rfl rfl rfl rfl (congrArg Value.long (i64_of (y412))) rfl ?_
                      have hW414 : Wk (uG Gx 14 ((y412 : Int64).toInt)) Ax := Wk_g hWx (show (-9223372036854775808 : Int) ≤ (y412 : Int64).toInt by omega) (show (y412 : Int64).toInt ≤ (9223372036854775807 : Int) by omega)
                      have hF415 := Fr_g (z := (y412 : Int64).toInt) (i := 14) hFx (by decide)
                      refine jx_inc (pc' := 88) (l' := jSto1 L 1 (.int (i32 ((n + (1)))))) (x := n) rfl gL_1 (by decide) rfl rfl ?_
                      obtain ⟨L416, eL416⟩ : ∃ q, q = jSto1 L 1 (.int (i32 ((n + (1))))) := ⟨_, rfl⟩
                      rw [← eL416]
                      have gL416_0 : jGet L416 0 = some (.ref 66) := eL416 ▸ jg_ne (by decide) gL_0 rfl
                      have gL416_1 : jGet L416 1 = some (.int (i32 ((n + (1))))) := eL416 ▸ jg_eq
                      refine jx_ld (pc' := 89) (l' := L416) (st' := [.ref 66]) rfl (jl_aloadn gL416_0) ?_
                      refine jx_ar (pc' := 90) (st' := [.ref 66, .ref 66]) rfl rfl rfl rfl ?_
                      refine jr_get (pc' := 93) (i := 10) (v := .int (i32 (at1))) rfl rfl (by decide) (rFv_eq (by decide) (show (uG Gx 14 ((y412 : Int64).toInt)) 10 = at1 from (ex_at1))) rfl ?_
                      refine jx_ar (pc' := 94) (st' := [.int (i32 (1)), .int (i32 (at1)), .ref 66]) rfl rfl rfl rfl ?_
                      refine jx_add (pc' := 95) rfl rfl ?_
                      refine jr_put (pc' := 98) (i := 10) (z := (at1 + 1)) rfl rfl (by decide) rfl rfl rfl rfl rfl rfl ?_
                      have hW417 : Wk (uG (uG Gx 14 ((y412 : Int64).toInt)) 10 ((at1 + 1))) Ax := Wk_g hW414 (show (0 : Int) ≤ (at1 + 1) by omega) (show (at1 + 1) ≤ (3002 : Int) by omega)
                      have hF418 := Fr_g (z := (at1 + 1)) (i := 10) hF415 (by decide)
                      refine jx_go (tg := 7) rfl rfl ?_
                      exact ih _ (by omega) L416 (uG (uG Gx 14 ((y412 : Int64).toInt)) 10 ((at1 + 1))) Ax ((n + (1))) ((at1 + 1)) (A 0 ((at1 + 1)).toNat) rfl gL416_0 gL416_1 hW417 hF418 (rfl) ((congrFun (hFx.2 0 rfl) _)) (by omega) (by omega) (by omega) (by omega)
                · have _q := h383
                  exact absurd h383 (by omega)
              · have _q : True := trivial
                refine jx_if_ne (pc' := 35) (tg := 48) rfl rfl rfl (by omega) (by omega) (fun h419 => ?_) (fun h419 => ?_)
                · have _q := h419
                  exact absurd h419 (by omega)
                · have _q := h419
                  refine jx_ld (pc' := 36) (l' := L) (st' := [.ref 66]) rfl (jl_aloadn gL_0) ?_
                  refine jx_ld (pc' := 37) (l' := L) (st' := [.ref 66, .ref 66]) rfl (jl_aloadn gL_0) ?_
                  refine jr_get (pc' := 40) (i := 10) (v := .int (i32 (at1))) rfl rfl (by decide) (rFv_eq (by decide) (show Gx 10 = at1 from (ex_at1))) rfl ?_
                  refine jx_vr (pc' := 43) (as := [.int (i32 (at1))]) (st := []) rfl rfl rfl rfl ⟨rfl, rfl, Nat.le_of_ble_eq_true rfl⟩ rfl rfl (c_sign (dd := d) (hd := by omega) (hW := hWx) (k := at1) (ln := ln) (e_ln := show Gx 9 = ln from ((hFx.1 9 rfl).trans (e_ln))) (le := le) (e_le := show Ax 4 (ln).toNat = le from (congrFun (hFx.2 4 rfl) _).trans (e_le)) (tx := cur) (e_tx := show Ax 0 (at1).toNat = cur from (ex_cur))  (h_k := by omega)  (p_0 := by omega)) (fun o V' hq => ?_)
                  obtain ⟨r420, rfl, rfl, b421, q422⟩ := hq
                  refine .inr ⟨_, rfl, ?_⟩
                  rcases q422 with ⟨a423, a424⟩ | ⟨a425, a426⟩
                  · have _q : True := trivial
                    refine jx_ar (pc' := 45) (st' := [.int (i32 (46)), .int (i32 (r420))]) rfl rfl rfl rfl ?_
                    refine jx_icmp_ne (pc' := 48) (tg := 101) rfl rfl rfl (by omega) (by omega) (by omega) (by omega) (fun h427 => ?_) (fun h427 => ?_)
                    · have _q := h427
                      refine jx_ld (pc' := 102) (l' := L) (st' := [.ref 66]) rfl (jl_aloadn gL_0) ?_
                      refine jx_ld (pc' := 103) (l' := L) (st' := [.int (i32 (n)), .ref 66]) rfl (jl_iloadn gL_1) ?_
                      refine jx_ar (pc' := 105) (st' := [.int (i32 (10)), .int (i32 (n)), .ref 66]) rfl rfl rfl rfl ?_
                      refine jx_icmp_le (pc' := 108) (tg := 112) rfl rfl rfl (by omega) (by omega) (by omega) (by omega) (fun h428 => ?_) (fun h428 => ?_)
                      · have _q := h428
                        refine jx_ar (pc' := 113) (st' := [.int (i32 (1)), .ref 66]) rfl rfl rfl rfl ?_
                        refine jr_put (pc' := 116) (i := 11) (z := 1) rfl rfl (by decide) rfl rfl rfl rfl rfl rfl ?_
                        have hW429 : Wk (uG Gx 11 (1)) Ax := Wk_g hWx (show (0 : Int) ≤ 1 by omega) (show 1 ≤ (5 : Int) by omega)
                        have hF430 := Fr_g (z := 1) (i := 11) hFx (by decide)
                        refine jx_rt (v := none) rfl rfl rfl rfl rfl rfl ?_
                        exact ⟨_, _, at1, 1, rfl, rfl, hW429, hF430, (ex_at1), rfl, by omega, by omega, by omega, trivial⟩
                      · have _q := h428
                        refine jx_ar (pc' := 109) (st' := [.int (i32 (5)), .ref 66]) rfl rfl rfl rfl ?_
                        refine jx_go (tg := 113) rfl rfl ?_
                        refine jr_put (pc' := 116) (i := 11) (z := 5) rfl rfl (by decide) rfl rfl rfl rfl rfl rfl ?_
                        have hW431 : Wk (uG Gx 11 (5)) Ax := Wk_g hWx (show (0 : Int) ≤ 5 by omega) (show 5 ≤ (5 : Int) by omega)
                        have hF432 := Fr_g (z := 5) (i := 11) hFx (by decide)
                        refine jx_rt (v := none) rfl rfl rfl rfl rfl rfl ?_
                        exact ⟨_, _, at1, 5, rfl, rfl, hW431, hF432, (ex_at1), rfl, by omega, by omega, by omega, trivial⟩
                    · have _q := h427
                      refine jx_ld (pc' := 49) (l' := L) (st' := [.ref 66]) rfl (jl_aloadn gL_0) ?_
                      refine jx_ld (pc' := 50) (l' := L) (st' := [.int (i32 (n)), .ref 66]) rfl (jl_iloadn gL_1) ?_
                      refine jx_ar (pc' := 52) (st' := [.int (i32 (10)), .int (i32 (n)), .ref 66]) rfl rfl rfl rfl ?_
                      refine jx_icmp_ge (pc' := 55) (tg := 78) rfl rfl rfl (by omega) (by omega) (by omega) (by omega) (fun h433 => ?_) (fun h433 => ?_)
                      · have _q := h433
                        refine jx_ld (pc' := 79) (l' := L) (st' := [.ref 66, .ref 66]) rfl (jl_aloadn gL_0) ?_
                        refine jr_get (pc' := 82) (i := 14) (v := .long (i64 (Gx 14))) rfl rfl (by decide) rfl rfl ?_
                        obtain ⟨y434, ey434⟩ : ∃ q : Int64, q = i64 (Gx 14) := ⟨_, rfl⟩
                        rw [← ey434]
                        have rl435 := i64_rg (y434)
                        refine jr_put (pc' := 85) (i := 14) (z := (y434 : Int64).toInt) rfl rfl (by decide) rfl rfl rfl rfl (congrArg Value.long (i64_of (y434))) rfl ?_
                        have hW436 : Wk (uG Gx 14 ((y434 : Int64).toInt)) Ax := Wk_g hWx (show (-9223372036854775808 : Int) ≤ (y434 : Int64).toInt by omega) (show (y434 : Int64).toInt ≤ (9223372036854775807 : Int) by omega)
                        have hF437 := Fr_g (z := (y434 : Int64).toInt) (i := 14) hFx (by decide)
                        refine jx_inc (pc' := 88) (l' := jSto1 L 1 (.int (i32 ((n + (1)))))) (x := n) rfl gL_1 (by decide) rfl rfl ?_
                        obtain ⟨L438, eL438⟩ : ∃ q, q = jSto1 L 1 (.int (i32 ((n + (1))))) := ⟨_, rfl⟩
                        rw [← eL438]
                        have gL438_0 : jGet L438 0 = some (.ref 66) := eL438 ▸ jg_ne (by decide) gL_0 rfl
                        have gL438_1 : jGet L438 1 = some (.int (i32 ((n + (1))))) := eL438 ▸ jg_eq
                        refine jx_ld (pc' := 89) (l' := L438) (st' := [.ref 66]) rfl (jl_aloadn gL438_0) ?_
                        refine jx_ar (pc' := 90) (st' := [.ref 66, .ref 66]) rfl rfl rfl rfl ?_
                        refine jr_get (pc' := 93) (i := 10) (v := .int (i32 (at1))) rfl rfl (by decide) (rFv_eq (by decide) (show (uG Gx 14 ((y434 : Int64).toInt)) 10 = at1 from (ex_at1))) rfl ?_
                        refine jx_ar (pc' := 94) (st' := [.int (i32 (1)), .int (i32 (at1)), .ref 66]) rfl rfl rfl rfl ?_
                        refine jx_add (pc' := 95) rfl rfl ?_
                        refine jr_put (pc' := 98) (i := 10) (z := (at1 + 1)) rfl rfl (by decide) rfl rfl rfl rfl rfl rfl ?_
                        have hW439 : Wk (uG (uG Gx 14 ((y434 : Int64).toInt)) 10 ((at1 + 1))) Ax := Wk_g hW436 (show (0 : Int) ≤ (at1 + 1) by omega) (show (at1 + 1) ≤ (3002 : Int) by omega)
                        have hF440 := Fr_g (z := (at1 + 1)) (i := 10) hF437 (by decide)
                        refine jx_go (tg := 7) rfl rfl ?_
                        exact ih _ (by omega) L438 (uG (uG Gx 14 ((y434 : Int64).toInt)) 10 ((at1 + 1))) Ax ((n + (1))) ((at1 + 1)) (A 0 ((at1 + 1)).toNat) rfl gL438_0 gL438_1 hW439 hF440 (rfl) ((congrFun (hFx.2 0 rfl) _)) (by omega) (by omega) (by omega) (by omega)
                      · have _q := h433
                        refine jx_hp (pc' := 58) (st' := [.long (38), .ref 66]) rfl rfl rfl rfl rfl rfl ?_
                        refine jx_ld (pc' := 59) (l' := L) (st' := [.ref 66, .long (38), .ref 66]) rfl (jl_aloadn gL_0) ?_
                        refine jr_get (pc' := 62) (i := 14) (v := .long (i64 (Gx 14))) rfl rfl (by decide) rfl rfl ?_
                        obtain ⟨y441, ey441⟩ : ∃ q : Int64, q = i64 (Gx 14) := ⟨_, rfl⟩
                        rw [← ey441]
                        refine jx_ar (pc' := 63) (st' := .long ((38 : Int64) * (y441)) :: [.ref 66]) rfl rfl rfl rfl ?_
                        obtain ⟨y442, ey442⟩ : ∃ q : Int64, q = (38 : Int64) * (y441) := ⟨_, rfl⟩
                        rw [← ey442]
                        refine jx_ld (pc' := 64) (l' := L) (st' := [.ref 66, .long (y442), .ref 66]) rfl (jl_aloadn gL_0) ?_
                        refine jx_ld (pc' := 65) (l' := L) (st' := [.ref 66, .ref 66, .long (y442), .ref 66]) rfl (jl_aloadn gL_0) ?_
                        refine jr_get (pc' := 68) (i := 10) (v := .int (i32 (at1))) rfl rfl (by decide) (rFv_eq (by decide) (show Gx 10 = at1 from (ex_at1))) rfl ?_
                        refine jx_vr (pc' := 71) (as := [.int (i32 (at1))]) (st := [.long (y442), .ref 66]) rfl rfl rfl rfl ⟨rfl, rfl, Nat.le_of_ble_eq_true rfl⟩ rfl rfl (c_sign (dd := d) (hd := by omega) (hW := hWx) (k := at1) (ln := ln) (e_ln := show Gx 9 = ln from ((hFx.1 9 rfl).trans (e_ln))) (le := le) (e_le := show Ax 4 (ln).toNat = le from (congrFun (hFx.2 4 rfl) _).trans (e_le)) (tx := cur) (e_tx := show Ax 0 (at1).toNat = cur from (ex_cur))  (h_k := by omega)  (p_0 := by omega)) (fun o V' hq => ?_)
                        obtain ⟨r443, rfl, rfl, b444, q445⟩ := hq
                        refine .inr ⟨_, rfl, ?_⟩
                        rcases q445 with ⟨a446, a447⟩ | ⟨a448, a449⟩
                        · have _q : True := trivial
                          refine jx_st (pc' := 74) (as := [.int (i32 (r443))]) (st := [.long (y442), .ref 66]) rfl rfl ⟨rfl, Nat.le_of_ble_eq_true rfl⟩ rfl rfl rfl (c_digit (dd := d) (hd := by omega) (c := r443)   (h_c := by omega)  ) (fun o V' hq => ?_)
                          obtain ⟨r450, rfl, rfl, -⟩ := hq
                          refine .inr ⟨_, rfl, ?_⟩
                          refine jx_ar (pc' := 75) (st' := .long ((y442 : Int64) + (r450)) :: [.ref 66]) rfl rfl rfl rfl ?_
                          obtain ⟨y452, ey452⟩ : ∃ q : Int64, q = (y442 : Int64) + (r450) := ⟨_, rfl⟩
                          rw [← ey452]
                          refine jx_go (tg := 82) rfl rfl ?_
                          have rl453 := i64_rg (y452)
                          refine jr_put (pc' := 85) (i := 14) (z := (y452 : Int64).toInt) rfl rfl (by decide) rfl rfl rfl rfl (congrArg Value.long (i64_of (y452))) rfl ?_
                          have hW454 : Wk (uG Gx 14 ((y452 : Int64).toInt)) Ax := Wk_g hWx (show (-9223372036854775808 : Int) ≤ (y452 : Int64).toInt by omega) (show (y452 : Int64).toInt ≤ (9223372036854775807 : Int) by omega)
                          have hF455 := Fr_g (z := (y452 : Int64).toInt) (i := 14) hFx (by decide)
                          refine jx_inc (pc' := 88) (l' := jSto1 L 1 (.int (i32 ((n + (1)))))) (x := n) rfl gL_1 (by decide) rfl rfl ?_
                          obtain ⟨L456, eL456⟩ : ∃ q, q = jSto1 L 1 (.int (i32 ((n + (1))))) := ⟨_, rfl⟩
                          rw [← eL456]
                          have gL456_0 : jGet L456 0 = some (.ref 66) := eL456 ▸ jg_ne (by decide) gL_0 rfl
                          have gL456_1 : jGet L456 1 = some (.int (i32 ((n + (1))))) := eL456 ▸ jg_eq
                          refine jx_ld (pc' := 89) (l' := L456) (st' := [.ref 66]) rfl (jl_aloadn gL456_0) ?_
                          refine jx_ar (pc' := 90) (st' := [.ref 66, .ref 66]) rfl rfl rfl rfl ?_
                          refine jr_get (pc' := 93) (i := 10) (v := .int (i32 (at1))) rfl rfl (by decide) (rFv_eq (by decide) (show (uG Gx 14 ((y452 : Int64).toInt)) 10 = at1 from (ex_at1))) rfl ?_
                          refine jx_ar (pc' := 94) (st' := [.int (i32 (1)), .int (i32 (at1)), .ref 66]) rfl rfl rfl rfl ?_
                          refine jx_add (pc' := 95) rfl rfl ?_
                          refine jr_put (pc' := 98) (i := 10) (z := (at1 + 1)) rfl rfl (by decide) rfl rfl rfl rfl rfl rfl ?_
                          have hW457 : Wk (uG (uG Gx 14 ((y452 : Int64).toInt)) 10 ((at1 + 1))) Ax := Wk_g hW454 (show (0 : Int) ≤ (at1 + 1) by omega) (show (at1 + 1) ≤ (3002 : Int) by omega)
                          have hF458 := Fr_g (z := (at1 + 1)) (i := 10) hF455 (by decide)
                          refine jx_go (tg := 7) rfl rfl ?_
                          exact ih _ (by omega) L456 (uG (uG Gx 14 ((y452 : Int64).toInt)) 10 ((at1 + 1))) Ax ((n + (1))) ((at1 + 1)) (A 0 ((at1 + 1)).toNat) rfl gL456_0 gL456_1 hW457 hF458 (rfl) ((congrFun (hFx.2 0 rfl) _)) (by omega) (by omega) (by omega) (by omega)
                        · have _q : True := trivial
                          refine jx_st (pc' := 74) (as := [.int (i32 (r443))]) (st := [.long (y442), .ref 66]) rfl rfl ⟨rfl, Nat.le_of_ble_eq_true rfl⟩ rfl rfl rfl (c_digit (dd := d) (hd := by omega) (c := r443)   (h_c := by omega)  ) (fun o V' hq => ?_)
                          obtain ⟨r459, rfl, rfl, -⟩ := hq
                          refine .inr ⟨_, rfl, ?_⟩
                          refine jx_ar (pc' := 75) (st' := .long ((y442 : Int64) + (r459)) :: [.ref 66]) rfl rfl rfl rfl ?_
                          obtain ⟨y461, ey461⟩ : ∃ q : Int64, q = (y442 : Int64) + (r459) := ⟨_, rfl⟩
                          rw [← ey461]
                          refine jx_go (tg := 82) rfl rfl ?_
                          have rl462 := i64_rg (y461)
                          refine jr_put (pc' := 85) (i := 14) (z := (y461 : Int64).toInt) rfl rfl (by decide) rfl rfl rfl rfl (congrArg Value.long (i64_of (y461))) rfl ?_
                          have hW463 : Wk (uG Gx 14 ((y461 : Int64).toInt)) Ax := Wk_g hWx (show (-9223372036854775808 : Int) ≤ (y461 : Int64).toInt by omega) (show (y461 : Int64).toInt ≤ (9223372036854775807 : Int) by omega)
                          have hF464 := Fr_g (z := (y461 : Int64).toInt) (i := 14) hFx (by decide)
                          refine jx_inc (pc' := 88) (l' := jSto1 L 1 (.int (i32 ((n + (1)))))) (x := n) rfl gL_1 (by decide) rfl rfl ?_
                          obtain ⟨L465, eL465⟩ : ∃ q, q = jSto1 L 1 (.int (i32 ((n + (1))))) := ⟨_, rfl⟩
                          rw [← eL465]
                          have gL465_0 : jGet L465 0 = some (.ref 66) := eL465 ▸ jg_ne (by decide) gL_0 rfl
                          have gL465_1 : jGet L465 1 = some (.int (i32 ((n + (1))))) := eL465 ▸ jg_eq
                          refine jx_ld (pc' := 89) (l' := L465) (st' := [.ref 66]) rfl (jl_aloadn gL465_0) ?_
                          refine jx_ar (pc' := 90) (st' := [.ref 66, .ref 66]) rfl rfl rfl rfl ?_
                          refine jr_get (pc' := 93) (i := 10) (v := .int (i32 (at1))) rfl rfl (by decide) (rFv_eq (by decide) (show (uG Gx 14 ((y461 : Int64).toInt)) 10 = at1 from (ex_at1))) rfl ?_
                          refine jx_ar (pc' := 94) (st' := [.int (i32 (1)), .int (i32 (at1)), .ref 66]) rfl rfl rfl rfl ?_
                          refine jx_add (pc' := 95) rfl rfl ?_
                          refine jr_put (pc' := 98) (i := 10) (z := (at1 + 1)) rfl rfl (by decide) rfl rfl rfl rfl rfl rfl ?_
                          have hW466 : Wk (uG (uG Gx 14 ((y461 : Int64).toInt)) 10 ((at1 + 1))) Ax := Wk_g hW463 (show (0 : Int) ≤ (at1 + 1) by omega) (show (at1 + 1) ≤ (3002 : Int) by omega)
                          have hF467 := Fr_g (z := (at1 + 1)) (i := 10) hF464 (by decide)
                          refine jx_go (tg := 7) rfl rfl ?_
                          exact ih _ (by omega) L465 (uG (uG Gx 14 ((y461 : Int64).toInt)) 10 ((at1 + 1))) Ax ((n + (1))) ((at1 + 1)) (A 0 ((at1 + 1)).toNat) rfl gL465_0 gL465_1 hW466 hF467 (rfl) ((congrFun (hFx.2 0 rfl) _)) (by omega) (by omega) (by omega) (by omega)
                  · have _q : True := trivial
                    refine jx_ar (pc' := 45) (st' := [.int (i32 (46)), .int (i32 (r420))]) rfl rfl rfl rfl ?_
                    refine jx_icmp_ne (pc' := 48) (tg := 101) rfl rfl rfl (by omega) (by omega) (by omega) (by omega) (fun h468 => ?_) (fun h468 => ?_)
                    · have _q := h468
                      refine jx_ld (pc' := 102) (l' := L) (st' := [.ref 66]) rfl (jl_aloadn gL_0) ?_
                      refine jx_ld (pc' := 103) (l' := L) (st' := [.int (i32 (n)), .ref 66]) rfl (jl_iloadn gL_1) ?_
                      refine jx_ar (pc' := 105) (st' := [.int (i32 (10)), .int (i32 (n)), .ref 66]) rfl rfl rfl rfl ?_
                      refine jx_icmp_le (pc' := 108) (tg := 112) rfl rfl rfl (by omega) (by omega) (by omega) (by omega) (fun h469 => ?_) (fun h469 => ?_)
                      · have _q := h469
                        refine jx_ar (pc' := 113) (st' := [.int (i32 (1)), .ref 66]) rfl rfl rfl rfl ?_
                        refine jr_put (pc' := 116) (i := 11) (z := 1) rfl rfl (by decide) rfl rfl rfl rfl rfl rfl ?_
                        have hW470 : Wk (uG Gx 11 (1)) Ax := Wk_g hWx (show (0 : Int) ≤ 1 by omega) (show 1 ≤ (5 : Int) by omega)
                        have hF471 := Fr_g (z := 1) (i := 11) hFx (by decide)
                        refine jx_rt (v := none) rfl rfl rfl rfl rfl rfl ?_
                        exact ⟨_, _, at1, 1, rfl, rfl, hW470, hF471, (ex_at1), rfl, by omega, by omega, by omega, trivial⟩
                      · have _q := h469
                        refine jx_ar (pc' := 109) (st' := [.int (i32 (5)), .ref 66]) rfl rfl rfl rfl ?_
                        refine jx_go (tg := 113) rfl rfl ?_
                        refine jr_put (pc' := 116) (i := 11) (z := 5) rfl rfl (by decide) rfl rfl rfl rfl rfl rfl ?_
                        have hW472 : Wk (uG Gx 11 (5)) Ax := Wk_g hWx (show (0 : Int) ≤ 5 by omega) (show 5 ≤ (5 : Int) by omega)
                        have hF473 := Fr_g (z := 5) (i := 11) hFx (by decide)
                        refine jx_rt (v := none) rfl rfl rfl rfl rfl rfl ?_
                        exact ⟨_, _, at1, 5, rfl, rfl, hW472, hF473, (ex_at1), rfl, by omega, by omega, by omega, trivial⟩
                    · have _q := h468
                      refine jx_ld (pc' := 49) (l' := L) (st' := [.ref 66]) rfl (jl_aloadn gL_0) ?_
                      refine jx_ld (pc' := 50) (l' := L) (st' := [.int (i32 (n)), .ref 66]) rfl (jl_iloadn gL_1) ?_
                      refine jx_ar (pc' := 52) (st' := [.int (i32 (10)), .int (i32 (n)), .ref 66]) rfl rfl rfl rfl ?_
                      refine jx_icmp_ge (pc' := 55) (tg := 78) rfl rfl rfl (by omega) (by omega) (by omega) (by omega) (fun h474 => ?_) (fun h474 => ?_)
                      · have _q := h474
                        refine jx_ld (pc' := 79) (l' := L) (st' := [.ref 66, .ref 66]) rfl (jl_aloadn gL_0) ?_
                        refine jr_get (pc' := 82) (i := 14) (v := .long (i64 (Gx 14))) rfl rfl (by decide) rfl rfl ?_
                        obtain ⟨y475, ey475⟩ : ∃ q : Int64, q = i64 (Gx 14) := ⟨_, rfl⟩
                        rw [← ey475]
                        have rl476 := i64_rg (y475)
                        refine jr_put (pc' := 85) (i := 14) (z := (y475 : Int64).toInt) rfl rfl (by decide) rfl rfl rfl rfl (congrArg Value.long (i64_of (y475))) rfl ?_
                        have hW477 : Wk (uG Gx 14 ((y475 : Int64).toInt)) Ax := Wk_g hWx (show (-9223372036854775808 : Int) ≤ (y475 : Int64).toInt by omega) (show (y475 : Int64).toInt ≤ (9223372036854775807 : Int) by omega)
                        have hF478 := Fr_g (z := (y475 : Int64).toInt) (i := 14) hFx (by decide)
                        refine jx_inc (pc' := 88) (l' := jSto1 L 1 (.int (i32 ((n + (1)))))) (x := n) rfl gL_1 (by decide) rfl rfl ?_
                        obtain ⟨L479, eL479⟩ : ∃ q, q = jSto1 L 1 (.int (i32 ((n + (1))))) := ⟨_, rfl⟩
                        rw [← eL479]
                        have gL479_0 : jGet L479 0 = some (.ref 66) := eL479 ▸ jg_ne (by decide) gL_0 rfl
                        have gL479_1 : jGet L479 1 = some (.int (i32 ((n + (1))))) := eL479 ▸ jg_eq
                        refine jx_ld (pc' := 89) (l' := L479) (st' := [.ref 66]) rfl (jl_aloadn gL479_0) ?_
                        refine jx_ar (pc' := 90) (st' := [.ref 66, .ref 66]) rfl rfl rfl rfl ?_
                        refine jr_get (pc' := 93) (i := 10) (v := .int (i32 (at1))) rfl rfl (by decide) (rFv_eq (by decide) (show (uG Gx 14 ((y475 : Int64).toInt)) 10 = at1 from (ex_at1))) rfl ?_
                        refine jx_ar (pc' := 94) (st' := [.int (i32 (1)), .int (i32 (at1)), .ref 66]) rfl rfl rfl rfl ?_
                        refine jx_add (pc' := 95) rfl rfl ?_
                        refine jr_put (pc' := 98) (i := 10) (z := (at1 + 1)) rfl rfl (by decide) rfl rfl rfl rfl rfl rfl ?_
                        have hW480 : Wk (uG (uG Gx 14 ((y475 : Int64).toInt)) 10 ((at1 + 1))) Ax := Wk_g hW477 (show (0 : Int) ≤ (at1 + 1) by omega) (show (at1 + 1) ≤ (3002 : Int) by omega)
                        have hF481 := Fr_g (z := (at1 + 1)) (i := 10) hF478 (by decide)
                        refine jx_go (tg := 7) rfl rfl ?_
                        exact ih _ (by omega) L479 (uG (uG Gx 14 ((y475 : Int64).toInt)) 10 ((at1 + 1))) Ax ((n + (1))) ((at1 + 1)) (A 0 ((at1 + 1)).toNat) rfl gL479_0 gL479_1 hW480 hF481 (rfl) ((congrFun (hFx.2 0 rfl) _)) (by omega) (by omega) (by omega) (by omega)
                      · have _q := h474
                        refine jx_hp (pc' := 58) (st' := [.long (38), .ref 66]) rfl rfl rfl rfl rfl rfl ?_
                        refine jx_ld (pc' := 59) (l' := L) (st' := [.ref 66, .long (38), .ref 66]) rfl (jl_aloadn gL_0) ?_
                        refine jr_get (pc' := 62) (i := 14) (v := .long (i64 (Gx 14))) rfl rfl (by decide) rfl rfl ?_
                        obtain ⟨y482, ey482⟩ : ∃ q : Int64, q = i64 (Gx 14) := ⟨_, rfl⟩
                        rw [← ey482]
                        refine jx_ar (pc' := 63) (st' := .long ((38 : Int64) * (y482)) :: [.ref 66]) rfl rfl rfl rfl ?_
                        obtain ⟨y483, ey483⟩ : ∃ q : Int64, q = (38 : Int64) * (y482) := ⟨_, rfl⟩
                        rw [← ey483]
                        refine jx_ld (pc' := 64) (l' := L) (st' := [.ref 66, .long (y483), .ref 66]) rfl (jl_aloadn gL_0) ?_
                        refine jx_ld (pc' := 65) (l' := L) (st' := [.ref 66, .ref 66, .long (y483), .ref 66]) rfl (jl_aloadn gL_0) ?_
                        refine jr_get (pc' := 68) (i := 10) (v := .int (i32 (at1))) rfl rfl (by decide) (rFv_eq (by decide) (show Gx 10 = at1 from (ex_at1))) rfl ?_
                        refine jx_vr (pc' := 71) (as := [.int (i32 (at1))]) (st := [.long (y483), .ref 66]) rfl rfl rfl rfl ⟨rfl, rfl, Nat.le_of_ble_eq_true rfl⟩ rfl rfl (c_sign (dd := d) (hd := by omega) (hW := hWx) (k := at1) (ln := ln) (e_ln := show Gx 9 = ln from ((hFx.1 9 rfl).trans (e_ln))) (le := le) (e_le := show Ax 4 (ln).toNat = le from (congrFun (hFx.2 4 rfl) _).trans (e_le)) (tx := cur) (e_tx := show Ax 0 (at1).toNat = cur from (ex_cur))  (h_k := by omega)  (p_0 := by omega)) (fun o V' hq => ?_)
                        obtain ⟨r484, rfl, rfl, b485, q486⟩ := hq
                        refine .inr ⟨_, rfl, ?_⟩
                        rcases q486 with ⟨a487, a488⟩ | ⟨a489, a490⟩
                        · have _q : True := trivial
                          refine jx_st (pc' := 74) (as := [.int (i32 (r484))]) (st := [.long (y483), .ref 66]) rfl rfl ⟨rfl, Nat.le_of_ble_eq_true rfl⟩ rfl rfl rfl (c_digit (dd := d) (hd := by omega) (c := r484)   (h_c := by omega)  ) (fun o V' hq => ?_)
                          obtain ⟨r491, rfl, rfl, -⟩ := hq
                          refine .inr ⟨_, rfl, ?_⟩
                          refine jx_ar (pc' := 75) (st' := .long ((y483 : Int64) + (r491)) :: [.ref 66]) rfl rfl rfl rfl ?_
                          obtain ⟨y493, ey493⟩ : ∃ q : Int64, q = (y483 : Int64) + (r491) := ⟨_, rfl⟩
                          rw [← ey493]
                          refine jx_go (tg := 82) rfl rfl ?_
                          have rl494 := i64_rg (y493)
                          refine jr_put (pc' := 85) (i := 14) (z := (y493 : Int64).toInt) rfl rfl (by decide) rfl rfl rfl rfl (congrArg Value.long (i64_of (y493))) rfl ?_
                          have hW495 : Wk (uG Gx 14 ((y493 : Int64).toInt)) Ax := Wk_g hWx (show (-9223372036854775808 : Int) ≤ (y493 : Int64).toInt by omega) (show (y493 : Int64).toInt ≤ (9223372036854775807 : Int) by omega)
                          have hF496 := Fr_g (z := (y493 : Int64).toInt) (i := 14) hFx (by decide)
                          refine jx_inc (pc' := 88) (l' := jSto1 L 1 (.int (i32 ((n + (1)))))) (x := n) rfl gL_1 (by decide) rfl rfl ?_
                          obtain ⟨L497, eL497⟩ : ∃ q, q = jSto1 L 1 (.int (i32 ((n + (1))))) := ⟨_, rfl⟩
                          rw [← eL497]
                          have gL497_0 : jGet L497 0 = some (.ref 66) := eL497 ▸ jg_ne (by decide) gL_0 rfl
                          have gL497_1 : jGet L497 1 = some (.int (i32 ((n + (1))))) := eL497 ▸ jg_eq
                          refine jx_ld (pc' := 89) (l' := L497) (st' := [.ref 66]) rfl (jl_aloadn gL497_0) ?_
                          refine jx_ar (pc' := 90) (st' := [.ref 66, .ref 66]) rfl rfl rfl rfl ?_
                          refine jr_get (pc' := 93) (i := 10) (v := .int (i32 (at1))) rfl rfl (by decide) (rFv_eq (by decide) (show (uG Gx 14 ((y493 : Int64).toInt)) 10 = at1 from (ex_at1))) rfl ?_
                          refine jx_ar (pc' := 94) (st' := [.int (i32 (1)), .int (i32 (at1)), .ref 66]) rfl rfl rfl rfl ?_
                          refine jx_add (pc' := 95) rfl rfl ?_
                          refine jr_put (pc' := 98) (i := 10) (z := (at1 + 1)) rfl rfl (by decide) rfl rfl rfl rfl rfl rfl ?_
                          have hW498 : Wk (uG (uG Gx 14 ((y493 : Int64).toInt)) 10 ((at1 + 1))) Ax := Wk_g hW495 (show (0 : Int) ≤ (at1 + 1) by omega) (show (at1 + 1) ≤ (3002 : Int) by omega)
                          have hF499 := Fr_g (z := (at1 + 1)) (i := 10) hF496 (by decide)
                          refine jx_go (tg := 7) rfl rfl ?_
                          exact ih _ (by omega) L497 (uG (uG Gx 14 ((y493 : Int64).toInt)) 10 ((at1 + 1))) Ax ((n + (1))) ((at1 + 1)) (A 0 ((at1 + 1)).toNat) rfl gL497_0 gL497_1 hW498 hF499 (rfl) ((congrFun (hFx.2 0 rfl) _)) (by omega) (by omega) (by omega) (by omega)
                        · have _q : True := trivial
                          refine jx_st (pc' := 74) (as := [.int (i32 (r484))]) (st := [.long (y483), .ref 66]) rfl rfl ⟨rfl, Nat.le_of_ble_eq_true rfl⟩ rfl rfl rfl (c_digit (dd := d) (hd := by omega) (c := r484)   (h_c := by omega)  ) (fun o V' hq => ?_)
                          obtain ⟨r500, rfl, rfl, -⟩ := hq
                          refine .inr ⟨_, rfl, ?_⟩
                          refine jx_ar (pc' := 75) (st' := .long ((y483 : Int64) + (r500)) :: [.ref 66]) rfl rfl rfl rfl ?_
                          obtain ⟨y502, ey502⟩ : ∃ q : Int64, q = (y483 : Int64) + (r500) := ⟨_, rfl⟩
                          rw [← ey502]
                          refine jx_go (tg := 82) rfl rfl ?_
                          have rl503 := i64_rg (y502)
                          refine jr_put (pc' := 85) (i := 14) (z := (y502 : Int64).toInt) rfl rfl (by decide) rfl rfl rfl rfl (congrArg Value.long (i64_of (y502))) rfl ?_
                          have hW504 : Wk (uG Gx 14 ((y502 : Int64).toInt)) Ax := Wk_g hWx (show (-9223372036854775808 : Int) ≤ (y502 : Int64).toInt by omega) (show (y502 : Int64).toInt ≤ (9223372036854775807 : Int) by omega)
                          have hF505 := Fr_g (z := (y502 : Int64).toInt) (i := 14) hFx (by decide)
                          refine jx_inc (pc' := 88) (l' := jSto1 L 1 (.int (i32 ((n + (1)))))) (x := n) rfl gL_1 (by decide) rfl rfl ?_
                          obtain ⟨L506, eL506⟩ : ∃ q, q = jSto1 L 1 (.int (i32 ((n + (1))))) := ⟨_, rfl⟩
                          rw [← eL506]
                          have gL506_0 : jGet L506 0 = some (.ref 66) := eL506 ▸ jg_ne (by decide) gL_0 rfl
                          have gL506_1 : jGet L506 1 = some (.int (i32 ((n + (1))))) := eL506 ▸ jg_eq
                          refine jx_ld (pc' := 89) (l' := L506) (st' := [.ref 66]) rfl (jl_aloadn gL506_0) ?_
                          refine jx_ar (pc' := 90) (st' := [.ref 66, .ref 66]) rfl rfl rfl rfl ?_
                          refine jr_get (pc' := 93) (i := 10) (v := .int (i32 (at1))) rfl rfl (by decide) (rFv_eq (by decide) (show (uG Gx 14 ((y502 : Int64).toInt)) 10 = at1 from (ex_at1))) rfl ?_
                          refine jx_ar (pc' := 94) (st' := [.int (i32 (1)), .int (i32 (at1)), .ref 66]) rfl rfl rfl rfl ?_
                          refine jx_add (pc' := 95) rfl rfl ?_
                          refine jr_put (pc' := 98) (i := 10) (z := (at1 + 1)) rfl rfl (by decide) rfl rfl rfl rfl rfl rfl ?_
                          have hW507 : Wk (uG (uG Gx 14 ((y502 : Int64).toInt)) 10 ((at1 + 1))) Ax := Wk_g hW504 (show (0 : Int) ≤ (at1 + 1) by omega) (show (at1 + 1) ≤ (3002 : Int) by omega)
                          have hF508 := Fr_g (z := (at1 + 1)) (i := 10) hF505 (by decide)
                          refine jx_go (tg := 7) rfl rfl ?_
                          exact ih _ (by omega) L506 (uG (uG Gx 14 ((y502 : Int64).toInt)) 10 ((at1 + 1))) Ax ((n + (1))) ((at1 + 1)) (A 0 ((at1 + 1)).toNat) rfl gL506_0 gL506_1 hW507 hF508 (rfl) ((congrFun (hFx.2 0 rfl) _)) (by omega) (by omega) (by omega) (by omega)
            · have _q : True := trivial
              refine jx_st (pc' := 32) (as := [.int (i32 (r370))]) (st := []) rfl rfl ⟨rfl, Nat.le_of_ble_eq_true rfl⟩ rfl rfl rfl (c_isDigit (dd := d) (hd := by omega) (v := r370)   (h_v := by omega)  ) (fun o V' hq => ?_)
              obtain ⟨r509, rfl, rfl, b510, q511⟩ := hq
              refine .inr ⟨_, rfl, ?_⟩
              rcases q511 with ⟨rfl, a512, a513⟩ | ⟨rfl, a514⟩
              · have _q : True := trivial
                refine jx_if_ne (pc' := 35) (tg := 48) rfl rfl rfl (by omega) (by omega) (fun h515 => ?_) (fun h515 => ?_)
                · have _q := h515
                  refine jx_ld (pc' := 49) (l' := L) (st' := [.ref 66]) rfl (jl_aloadn gL_0) ?_
                  refine jx_ld (pc' := 50) (l' := L) (st' := [.int (i32 (n)), .ref 66]) rfl (jl_iloadn gL_1) ?_
                  refine jx_ar (pc' := 52) (st' := [.int (i32 (10)), .int (i32 (n)), .ref 66]) rfl rfl rfl rfl ?_
                  refine jx_icmp_ge (pc' := 55) (tg := 78) rfl rfl rfl (by omega) (by omega) (by omega) (by omega) (fun h516 => ?_) (fun h516 => ?_)
                  · have _q := h516
                    refine jx_ld (pc' := 79) (l' := L) (st' := [.ref 66, .ref 66]) rfl (jl_aloadn gL_0) ?_
                    refine jr_get (pc' := 82) (i := 14) (v := .long (i64 (Gx 14))) rfl rfl (by decide) rfl rfl ?_
                    obtain ⟨y517, ey517⟩ : ∃ q : Int64, q = i64 (Gx 14) := ⟨_, rfl⟩
                    rw [← ey517]
                    have rl518 := i64_rg (y517)
                    refine jr_put (pc' := 85) (i := 14) (z := (y517 : Int64).toInt) rfl rfl (by decide) rfl rfl rfl rfl (congrArg Value.long (i64_of (y517))) rfl ?_
                    have hW519 : Wk (uG Gx 14 ((y517 : Int64).toInt)) Ax := Wk_g hWx (show (-9223372036854775808 : Int) ≤ (y517 : Int64).toInt by omega) (show (y517 : Int64).toInt ≤ (9223372036854775807 : Int) by omega)
                    have hF520 := Fr_g (z := (y517 : Int64).toInt) (i := 14) hFx (by decide)
                    refine jx_inc (pc' := 88) (l' := jSto1 L 1 (.int (i32 ((n + (1)))))) (x := n) rfl gL_1 (by decide) rfl rfl ?_
                    obtain ⟨L521, eL521⟩ : ∃ q, q = jSto1 L 1 (.int (i32 ((n + (1))))) := ⟨_, rfl⟩
                    rw [← eL521]
                    have gL521_0 : jGet L521 0 = some (.ref 66) := eL521 ▸ jg_ne (by decide) gL_0 rfl
                    have gL521_1 : jGet L521 1 = some (.int (i32 ((n + (1))))) := eL521 ▸ jg_eq
                    refine jx_ld (pc' := 89) (l' := L521) (st' := [.ref 66]) rfl (jl_aloadn gL521_0) ?_
                    refine jx_ar (pc' := 90) (st' := [.ref 66, .ref 66]) rfl rfl rfl rfl ?_
                    refine jr_get (pc' := 93) (i := 10) (v := .int (i32 (at1))) rfl rfl (by decide) (rFv_eq (by decide) (show (uG Gx 14 ((y517 : Int64).toInt)) 10 = at1 from (ex_at1))) rfl ?_
                    refine jx_ar (pc' := 94) (st' := [.int (i32 (1)), .int (i32 (at1)), .ref 66]) rfl rfl rfl rfl ?_
                    refine jx_add (pc' := 95) rfl rfl ?_
                    refine jr_put (pc' := 98) (i := 10) (z := (at1 + 1)) rfl rfl (by decide) rfl rfl rfl rfl rfl rfl ?_
                    have hW522 : Wk (uG (uG Gx 14 ((y517 : Int64).toInt)) 10 ((at1 + 1))) Ax := Wk_g hW519 (show (0 : Int) ≤ (at1 + 1) by omega) (show (at1 + 1) ≤ (3002 : Int) by omega)
                    have hF523 := Fr_g (z := (at1 + 1)) (i := 10) hF520 (by decide)
                    refine jx_go (tg := 7) rfl rfl ?_
                    exact ih _ (by omega) L521 (uG (uG Gx 14 ((y517 : Int64).toInt)) 10 ((at1 + 1))) Ax ((n + (1))) ((at1 + 1)) (A 0 ((at1 + 1)).toNat) rfl gL521_0 gL521_1 hW522 hF523 (rfl) ((congrFun (hFx.2 0 rfl) _)) (by omega) (by omega) (by omega) (by omega)
                  · have _q := h516
                    refine jx_hp (pc' := 58) (st' := [.long (38), .ref 66]) rfl rfl rfl rfl rfl rfl ?_
                    refine jx_ld (pc' := 59) (l' := L) (st' := [.ref 66, .long (38), .ref 66]) rfl (jl_aloadn gL_0) ?_
                    refine jr_get (pc' := 62) (i := 14) (v := .long (i64 (Gx 14))) rfl rfl (by decide) rfl rfl ?_
                    obtain ⟨y524, ey524⟩ : ∃ q : Int64, q = i64 (Gx 14) := ⟨_, rfl⟩
                    rw [← ey524]
                    refine jx_ar (pc' := 63) (st' := .long ((38 : Int64) * (y524)) :: [.ref 66]) rfl rfl rfl rfl ?_
                    obtain ⟨y525, ey525⟩ : ∃ q : Int64, q = (38 : Int64) * (y524) := ⟨_, rfl⟩
                    rw [← ey525]
                    refine jx_ld (pc' := 64) (l' := L) (st' := [.ref 66, .long (y525), .ref 66]) rfl (jl_aloadn gL_0) ?_
                    refine jx_ld (pc' := 65) (l' := L) (st' := [.ref 66, .ref 66, .long (y525), .ref 66]) rfl (jl_aloadn gL_0) ?_
                    refine jr_get (pc' := 68) (i := 10) (v := .int (i32 (at1))) rfl rfl (by decide) (rFv_eq (by decide) (show Gx 10 = at1 from (ex_at1))) rfl ?_
                    refine jx_vr (pc' := 71) (as := [.int (i32 (at1))]) (st := [.long (y525), .ref 66]) rfl rfl rfl rfl ⟨rfl, rfl, Nat.le_of_ble_eq_true rfl⟩ rfl rfl (c_sign (dd := d) (hd := by omega) (hW := hWx) (k := at1) (ln := ln) (e_ln := show Gx 9 = ln from ((hFx.1 9 rfl).trans (e_ln))) (le := le) (e_le := show Ax 4 (ln).toNat = le from (congrFun (hFx.2 4 rfl) _).trans (e_le)) (tx := cur) (e_tx := show Ax 0 (at1).toNat = cur from (ex_cur))  (h_k := by omega)  (p_0 := by omega)) (fun o V' hq => ?_)
                    obtain ⟨r526, rfl, rfl, b527, q528⟩ := hq
                    refine .inr ⟨_, rfl, ?_⟩
                    rcases q528 with ⟨a529, a530⟩ | ⟨a531, a532⟩
                    · have _q : True := trivial
                      refine jx_st (pc' := 74) (as := [.int (i32 (r526))]) (st := [.long (y525), .ref 66]) rfl rfl ⟨rfl, Nat.le_of_ble_eq_true rfl⟩ rfl rfl rfl (c_digit (dd := d) (hd := by omega) (c := r526)   (h_c := by omega)  ) (fun o V' hq => ?_)
                      obtain ⟨r533, rfl, rfl, -⟩ := hq
                      refine .inr ⟨_, rfl, ?_⟩
                      refine jx_ar (pc' := 75) (st' := .long ((y525 : Int64) + (r533)) :: [.ref 66]) rfl rfl rfl rfl ?_
                      obtain ⟨y535, ey535⟩ : ∃ q : Int64, q = (y525 : Int64) + (r533) := ⟨_, rfl⟩
                      rw [← ey535]
                      refine jx_go (tg := 82) rfl rfl ?_
                      have rl536 := i64_rg (y535)
                      refine jr_put (pc' := 85) (i := 14) (z := (y535 : Int64).toInt) rfl rfl (by decide) rfl rfl rfl rfl (congrArg Value.long (i64_of (y535))) rfl ?_
                      have hW537 : Wk (uG Gx 14 ((y535 : Int64).toInt)) Ax := Wk_g hWx (show (-9223372036854775808 : Int) ≤ (y535 : Int64).toInt by omega) (show (y535 : Int64).toInt ≤ (9223372036854775807 : Int) by omega)
                      have hF538 := Fr_g (z := (y535 : Int64).toInt) (i := 14) hFx (by decide)
                      refine jx_inc (pc' := 88) (l' := jSto1 L 1 (.int (i32 ((n + (1)))))) (x := n) rfl gL_1 (by decide) rfl rfl ?_
                      obtain ⟨L539, eL539⟩ : ∃ q, q = jSto1 L 1 (.int (i32 ((n + (1))))) := ⟨_, rfl⟩
                      rw [← eL539]
                      have gL539_0 : jGet L539 0 = some (.ref 66) := eL539 ▸ jg_ne (by decide) gL_0 rfl
                      have gL539_1 : jGet L539 1 = some (.int (i32 ((n + (1))))) := eL539 ▸ jg_eq
                      refine jx_ld (pc' := 89) (l' := L539) (st' := [.ref 66]) rfl (jl_aloadn gL539_0) ?_
                      refine jx_ar (pc' := 90) (st' := [.ref 66, .ref 66]) rfl rfl rfl rfl ?_
                      refine jr_get (pc' := 93) (i := 10) (v := .int (i32 (at1))) rfl rfl (by decide) (rFv_eq (by decide) (show (uG Gx 14 ((y535 : Int64).toInt)) 10 = at1 from (ex_at1))) rfl ?_
                      refine jx_ar (pc' := 94) (st' := [.int (i32 (1)), .int (i32 (at1)), .ref 66]) rfl rfl rfl rfl ?_
                      refine jx_add (pc' := 95) rfl rfl ?_
                      refine jr_put (pc' := 98) (i := 10) (z := (at1 + 1)) rfl rfl (by decide) rfl rfl rfl rfl rfl rfl ?_
                      have hW540 : Wk (uG (uG Gx 14 ((y535 : Int64).toInt)) 10 ((at1 + 1))) Ax := Wk_g hW537 (show (0 : Int) ≤ (at1 + 1) by omega) (show (at1 + 1) ≤ (3002 : Int) by omega)
                      have hF541 := Fr_g (z := (at1 + 1)) (i := 10) hF538 (by decide)
                      refine jx_go (tg := 7) rfl rfl ?_
                      exact ih _ (by omega) L539 (uG (uG Gx 14 ((y535 : Int64).toInt)) 10 ((at1 + 1))) Ax ((n + (1))) ((at1 + 1)) (A 0 ((at1 + 1)).toNat) rfl gL539_0 gL539_1 hW540 hF541 (rfl) ((congrFun (hFx.2 0 rfl) _)) (by omega) (by omega) (by omega) (by omega)
                    · have _q : True := trivial
                      refine jx_st (pc' := 74) (as := [.int (i32 (r526))]) (st := [.long (y525), .ref 66]) rfl rfl ⟨rfl, Nat.le_of_ble_eq_true rfl⟩ rfl rfl rfl (c_digit (dd := d) (hd := by omega) (c := r526)   (h_c := by omega)  ) (fun o V' hq => ?_)
                      obtain ⟨r542, rfl, rfl, -⟩ := hq
                      refine .inr ⟨_, rfl, ?_⟩
                      refine jx_ar (pc' := 75) (st' := .long ((y525 : Int64) + (r542)) :: [.ref 66]) rfl rfl rfl rfl ?_
                      obtain ⟨y544, ey544⟩ : ∃ q : Int64, q = (y525 : Int64) + (r542) := ⟨_, rfl⟩
                      rw [← ey544]
                      refine jx_go (tg := 82) rfl rfl ?_
                      have rl545 := i64_rg (y544)
                      refine jr_put (pc' := 85) (i := 14) (z := (y544 : Int64).toInt) rfl rfl (by decide) rfl rfl rfl rfl (congrArg Value.long (i64_of (y544))) rfl ?_
                      have hW546 : Wk (uG Gx 14 ((y544 : Int64).toInt)) Ax := Wk_g hWx (show (-9223372036854775808 : Int) ≤ (y544 : Int64).toInt by omega) (show (y544 : Int64).toInt ≤ (9223372036854775807 : Int) by omega)
                      have hF547 := Fr_g (z := (y544 : Int64).toInt) (i := 14) hFx (by decide)
                      refine jx_inc (pc' := 88) (l' := jSto1 L 1 (.int (i32 ((n + (1)))))) (x := n) rfl gL_1 (by decide) rfl rfl ?_
                      obtain ⟨L548, eL548⟩ : ∃ q, q = jSto1 L 1 (.int (i32 ((n + (1))))) := ⟨_, rfl⟩
                      rw [← eL548]
                      have gL548_0 : jGet L548 0 = some (.ref 66) := eL548 ▸ jg_ne (by decide) gL_0 rfl
                      have gL548_1 : jGet L548 1 = some (.int (i32 ((n + (1))))) := eL548 ▸ jg_eq
                      refine jx_ld (pc' := 89) (l' := L548) (st' := [.ref 66]) rfl (jl_aloadn gL548_0) ?_
                      refine jx_ar (pc' := 90) (st' := [.ref 66, .ref 66]) rfl rfl rfl rfl ?_
                      refine jr_get (pc' := 93) (i := 10) (v := .int (i32 (at1))) rfl rfl (by decide) (rFv_eq (by decide) (show (uG Gx 14 ((y544 : Int64).toInt)) 10 = at1 from (ex_at1))) rfl ?_
                      refine jx_ar (pc' := 94) (st' := [.int (i32 (1)), .int (i32 (at1)), .ref 66]) rfl rfl rfl rfl ?_
                      refine jx_add (pc' := 95) rfl rfl ?_
                      refine jr_put (pc' := 98) (i := 10) (z := (at1 + 1)) rfl rfl (by decide) rfl rfl rfl rfl rfl rfl ?_
                      have hW549 : Wk (uG (uG Gx 14 ((y544 : Int64).toInt)) 10 ((at1 + 1))) Ax := Wk_g hW546 (show (0 : Int) ≤ (at1 + 1) by omega) (show (at1 + 1) ≤ (3002 : Int) by omega)
                      have hF550 := Fr_g (z := (at1 + 1)) (i := 10) hF547 (by decide)
                      refine jx_go (tg := 7) rfl rfl ?_
                      exact ih _ (by omega) L548 (uG (uG Gx 14 ((y544 : Int64).toInt)) 10 ((at1 + 1))) Ax ((n + (1))) ((at1 + 1)) (A 0 ((at1 + 1)).toNat) rfl gL548_0 gL548_1 hW549 hF550 (rfl) ((congrFun (hFx.2 0 rfl) _)) (by omega) (by omega) (by omega) (by omega)
                · have _q := h515
                  exact absurd h515 (by omega)
              · have _q : True := trivial
                refine jx_if_ne (pc' := 35) (tg := 48) rfl rfl rfl (by omega) (by omega) (fun h551 => ?_) (fun h551 => ?_)
                · have _q := h551
                  exact absurd h551 (by omega)
                · have _q := h551
                  refine jx_ld (pc' := 36) (l' := L) (st' := [.ref 66]) rfl (jl_aloadn gL_0) ?_
                  refine jx_ld (pc' := 37) (l' := L) (st' := [.ref 66, .ref 66]) rfl (jl_aloadn gL_0) ?_
                  refine jr_get (pc' := 40) (i := 10) (v := .int (i32 (at1))) rfl rfl (by decide) (rFv_eq (by decide) (show Gx 10 = at1 from (ex_at1))) rfl ?_
                  refine jx_vr (pc' := 43) (as := [.int (i32 (at1))]) (st := []) rfl rfl rfl rfl ⟨rfl, rfl, Nat.le_of_ble_eq_true rfl⟩ rfl rfl (c_sign (dd := d) (hd := by omega) (hW := hWx) (k := at1) (ln := ln) (e_ln := show Gx 9 = ln from ((hFx.1 9 rfl).trans (e_ln))) (le := le) (e_le := show Ax 4 (ln).toNat = le from (congrFun (hFx.2 4 rfl) _).trans (e_le)) (tx := cur) (e_tx := show Ax 0 (at1).toNat = cur from (ex_cur))  (h_k := by omega)  (p_0 := by omega)) (fun o V' hq => ?_)
                  obtain ⟨r552, rfl, rfl, b553, q554⟩ := hq
                  refine .inr ⟨_, rfl, ?_⟩
                  rcases q554 with ⟨a555, a556⟩ | ⟨a557, a558⟩
                  · have _q : True := trivial
                    refine jx_ar (pc' := 45) (st' := [.int (i32 (46)), .int (i32 (r552))]) rfl rfl rfl rfl ?_
                    refine jx_icmp_ne (pc' := 48) (tg := 101) rfl rfl rfl (by omega) (by omega) (by omega) (by omega) (fun h559 => ?_) (fun h559 => ?_)
                    · have _q := h559
                      refine jx_ld (pc' := 102) (l' := L) (st' := [.ref 66]) rfl (jl_aloadn gL_0) ?_
                      refine jx_ld (pc' := 103) (l' := L) (st' := [.int (i32 (n)), .ref 66]) rfl (jl_iloadn gL_1) ?_
                      refine jx_ar (pc' := 105) (st' := [.int (i32 (10)), .int (i32 (n)), .ref 66]) rfl rfl rfl rfl ?_
                      refine jx_icmp_le (pc' := 108) (tg := 112) rfl rfl rfl (by omega) (by omega) (by omega) (by omega) (fun h560 => ?_) (fun h560 => ?_)
                      · have _q := h560
                        refine jx_ar (pc' := 113) (st' := [.int (i32 (1)), .ref 66]) rfl rfl rfl rfl ?_
                        refine jr_put (pc' := 116) (i := 11) (z := 1) rfl rfl (by decide) rfl rfl rfl rfl rfl rfl ?_
                        have hW561 : Wk (uG Gx 11 (1)) Ax := Wk_g hWx (show (0 : Int) ≤ 1 by omega) (show 1 ≤ (5 : Int) by omega)
                        have hF562 := Fr_g (z := 1) (i := 11) hFx (by decide)
                        refine jx_rt (v := none) rfl rfl rfl rfl rfl rfl ?_
                        exact ⟨_, _, at1, 1, rfl, rfl, hW561, hF562, (ex_at1), rfl, by omega, by omega, by omega, trivial⟩
                      · have _q := h560
                        refine jx_ar (pc' := 109) (st' := [.int (i32 (5)), .ref 66]) rfl rfl rfl rfl ?_
                        refine jx_go (tg := 113) rfl rfl ?_
                        refine jr_put (pc' := 116) (i := 11) (z := 5) rfl rfl (by decide) rfl rfl rfl rfl rfl rfl ?_
                        have hW563 : Wk (uG Gx 11 (5)) Ax := Wk_g hWx (show (0 : Int) ≤ 5 by omega) (show 5 ≤ (5 : Int) by omega)
                        have hF564 := Fr_g (z := 5) (i := 11) hFx (by decide)
                        refine jx_rt (v := none) rfl rfl rfl rfl rfl rfl ?_
                        exact ⟨_, _, at1, 5, rfl, rfl, hW563, hF564, (ex_at1), rfl, by omega, by omega, by omega, trivial⟩
                    · have _q := h559
                      refine jx_ld (pc' := 49) (l' := L) (st' := [.ref 66]) rfl (jl_aloadn gL_0) ?_
                      refine jx_ld (pc' := 50) (l' := L) (st' := [.int (i32 (n)), .ref 66]) rfl (jl_iloadn gL_1) ?_
                      refine jx_ar (pc' := 52) (st' := [.int (i32 (10)), .int (i32 (n)), .ref 66]) rfl rfl rfl rfl ?_
                      refine jx_icmp_ge (pc' := 55) (tg := 78) rfl rfl rfl (by omega) (by omega) (by omega) (by omega) (fun h565 => ?_) (fun h565 => ?_)
                      · have _q := h565
                        refine jx_ld (pc' := 79) (l' := L) (st' := [.ref 66, .ref 66]) rfl (jl_aloadn gL_0) ?_
                        refine jr_get (pc' := 82) (i := 14) (v := .long (i64 (Gx 14))) rfl rfl (by decide) rfl rfl ?_
                        obtain ⟨y566, ey566⟩ : ∃ q : Int64, q = i64 (Gx 14) := ⟨_, rfl⟩
                        rw [← ey566]
                        have rl567 := i64_rg (y566)
                        refine jr_put (pc' := 85) (i := 14) (z := (y566 : Int64).toInt) rfl rfl (by decide) rfl rfl rfl rfl (congrArg Value.long (i64_of (y566))) rfl ?_
                        have hW568 : Wk (uG Gx 14 ((y566 : Int64).toInt)) Ax := Wk_g hWx (show (-9223372036854775808 : Int) ≤ (y566 : Int64).toInt by omega) (show (y566 : Int64).toInt ≤ (9223372036854775807 : Int) by omega)
                        have hF569 := Fr_g (z := (y566 : Int64).toInt) (i := 14) hFx (by decide)
                        refine jx_inc (pc' := 88) (l' := jSto1 L 1 (.int (i32 ((n + (1)))))) (x := n) rfl gL_1 (by decide) rfl rfl ?_
                        obtain ⟨L570, eL570⟩ : ∃ q, q = jSto1 L 1 (.int (i32 ((n + (1))))) := ⟨_, rfl⟩
                        rw [← eL570]
                        have gL570_0 : jGet L570 0 = some (.ref 66) := eL570 ▸ jg_ne (by decide) gL_0 rfl
                        have gL570_1 : jGet L570 1 = some (.int (i32 ((n + (1))))) := eL570 ▸ jg_eq
                        refine jx_ld (pc' := 89) (l' := L570) (st' := [.ref 66]) rfl (jl_aloadn gL570_0) ?_
                        refine jx_ar (pc' := 90) (st' := [.ref 66, .ref 66]) rfl rfl rfl rfl ?_
                        refine jr_get (pc' := 93) (i := 10) (v := .int (i32 (at1))) rfl rfl (by decide) (rFv_eq (by decide) (show (uG Gx 14 ((y566 : Int64).toInt)) 10 = at1 from (ex_at1))) rfl ?_
                        refine jx_ar (pc' := 94) (st' := [.int (i32 (1)), .int (i32 (at1)), .ref 66]) rfl rfl rfl rfl ?_
                        refine jx_add (pc' := 95) rfl rfl ?_
                        refine jr_put (pc' := 98) (i := 10) (z := (at1 + 1)) rfl rfl (by decide) rfl rfl rfl rfl rfl rfl ?_
                        have hW571 : Wk (uG (uG Gx 14 ((y566 : Int64).toInt)) 10 ((at1 + 1))) Ax := Wk_g hW568 (show (0 : Int) ≤ (at1 + 1) by omega) (show (at1 + 1) ≤ (3002 : Int) by omega)
                        have hF572 := Fr_g (z := (at1 + 1)) (i := 10) hF569 (by decide)
                        refine jx_go (tg := 7) rfl rfl ?_
                        exact ih _ (by omega) L570 (uG (uG Gx 14 ((y566 : Int64).toInt)) 10 ((at1 + 1))) Ax ((n + (1))) ((at1 + 1)) (A 0 ((at1 + 1)).toNat) rfl gL570_0 gL570_1 hW571 hF572 (rfl) ((congrFun (hFx.2 0 rfl) _)) (by omega) (by omega) (by omega) (by omega)
                      · have _q := h565
                        refine jx_hp (pc' := 58) (st' := [.long (38), .ref 66]) rfl rfl rfl rfl rfl rfl ?_
                        refine jx_ld (pc' := 59) (l' := L) (st' := [.ref 66, .long (38), .ref 66]) rfl (jl_aloadn gL_0) ?_
                        refine jr_get (pc' := 62) (i := 14) (v := .long (i64 (Gx 14))) rfl rfl (by decide) rfl rfl ?_
                        obtain ⟨y573, ey573⟩ : ∃ q : Int64, q = i64 (Gx 14) := ⟨_, rfl⟩
                        rw [← ey573]
                        refine jx_ar (pc' := 63) (st' := .long ((38 : Int64) * (y573)) :: [.ref 66]) rfl rfl rfl rfl ?_
                        obtain ⟨y574, ey574⟩ : ∃ q : Int64, q = (38 : Int64) * (y573) := ⟨_, rfl⟩
                        rw [← ey574]
                        refine jx_ld (pc' := 64) (l' := L) (st' := [.ref 66, .long (y574), .ref 66]) rfl (jl_aloadn gL_0) ?_
                        refine jx_ld (pc' := 65) (l' := L) (st' := [.ref 66, .ref 66, .long (y574), .ref 66]) rfl (jl_aloadn gL_0) ?_
                        refine jr_get (pc' := 68) (i := 10) (v := .int (i32 (at1))) rfl rfl (by decide) (rFv_eq (by decide) (show Gx 10 = at1 from (ex_at1))) rfl ?_
                        refine jx_vr (pc' := 71) (as := [.int (i32 (at1))]) (st := [.long (y574), .ref 66]) rfl rfl rfl rfl ⟨rfl, rfl, Nat.le_of_ble_eq_true rfl⟩ rfl rfl (c_sign (dd := d) (hd := by omega) (hW := hWx) (k := at1) (ln := ln) (e_ln := show Gx 9 = ln from ((hFx.1 9 rfl).trans (e_ln))) (le := le) (e_le := show Ax 4 (ln).toNat = le from (congrFun (hFx.2 4 rfl) _).trans (e_le)) (tx := cur) (e_tx := show Ax 0 (at1).toNat = cur from (ex_cur))  (h_k := by omega)  (p_0 := by omega)) (fun o V' hq => ?_)
                        obtain ⟨r575, rfl, rfl, b576, q577⟩ := hq
                        refine .inr ⟨_, rfl, ?_⟩
                        rcases q577 with ⟨a578, a579⟩ | ⟨a580, a581⟩
                        · have _q : True := trivial
                          refine jx_st (pc' := 74) (as := [.int (i32 (r575))]) (st := [.long (y574), .ref 66]) rfl rfl ⟨rfl, Nat.le_of_ble_eq_true rfl⟩ rfl rfl rfl (c_digit (dd := d) (hd := by omega) (c := r575)   (h_c := by omega)  ) (fun o V' hq => ?_)
                          obtain ⟨r582, rfl, rfl, -⟩ := hq
                          refine .inr ⟨_, rfl, ?_⟩
                          refine jx_ar (pc' := 75) (st' := .long ((y574 : Int64) + (r582)) :: [.ref 66]) rfl rfl rfl rfl ?_
                          obtain ⟨y584, ey584⟩ : ∃ q : Int64, q = (y574 : Int64) + (r582) := ⟨_, rfl⟩
                          rw [← ey584]
                          refine jx_go (tg := 82) rfl rfl ?_
                          have rl585 := i64_rg (y584)
                          refine jr_put (pc' := 85) (i := 14) (z := (y584 : Int64).toInt) rfl rfl (by decide) rfl rfl rfl rfl (congrArg Value.long (i64_of (y584))) rfl ?_
                          have hW586 : Wk (uG Gx 14 ((y584 : Int64).toInt)) Ax := Wk_g hWx (show (-9223372036854775808 : Int) ≤ (y584 : Int64).toInt by omega) (show (y584 : Int64).toInt ≤ (9223372036854775807 : Int) by omega)
                          have hF587 := Fr_g (z := (y584 : Int64).toInt) (i := 14) hFx (by decide)
                          refine jx_inc (pc' := 88) (l' := jSto1 L 1 (.int (i32 ((n + (1)))))) (x := n) rfl gL_1 (by decide) rfl rfl ?_
                          obtain ⟨L588, eL588⟩ : ∃ q, q = jSto1 L 1 (.int (i32 ((n + (1))))) := ⟨_, rfl⟩
                          rw [← eL588]
                          have gL588_0 : jGet L588 0 = some (.ref 66) := eL588 ▸ jg_ne (by decide) gL_0 rfl
                          have gL588_1 : jGet L588 1 = some (.int (i32 ((n + (1))))) := eL588 ▸ jg_eq
                          refine jx_ld (pc' := 89) (l' := L588) (st' := [.ref 66]) rfl (jl_aloadn gL588_0) ?_
                          refine jx_ar (pc' := 90) (st' := [.ref 66, .ref 66]) rfl rfl rfl rfl ?_
                          refine jr_get (pc' := 93) (i := 10) (v := .int (i32 (at1))) rfl rfl (by decide) (rFv_eq (by decide) (show (uG Gx 14 ((y584 : Int64).toInt)) 10 = at1 from (ex_at1))) rfl ?_
                          refine jx_ar (pc' := 94) (st' := [.int (i32 (1)), .int (i32 (at1)), .ref 66]) rfl rfl rfl rfl ?_
                          refine jx_add (pc' := 95) rfl rfl ?_
                          refine jr_put (pc' := 98) (i := 10) (z := (at1 + 1)) rfl rfl (by decide) rfl rfl rfl rfl rfl rfl ?_
                          have hW589 : Wk (uG (uG Gx 14 ((y584 : Int64).toInt)) 10 ((at1 + 1))) Ax := Wk_g hW586 (show (0 : Int) ≤ (at1 + 1) by omega) (show (at1 + 1) ≤ (3002 : Int) by omega)
                          have hF590 := Fr_g (z := (at1 + 1)) (i := 10) hF587 (by decide)
                          refine jx_go (tg := 7) rfl rfl ?_
                          exact ih _ (by omega) L588 (uG (uG Gx 14 ((y584 : Int64).toInt)) 10 ((at1 + 1))) Ax ((n + (1))) ((at1 + 1)) (A 0 ((at1 + 1)).toNat) rfl gL588_0 gL588_1 hW589 hF590 (rfl) ((congrFun (hFx.2 0 rfl) _)) (by omega) (by omega) (by omega) (by omega)
                        · have _q : True := trivial
                          refine jx_st (pc' := 74) (as := [.int (i32 (r575))]) (st := [.long (y574), .ref 66]) rfl rfl ⟨rfl, Nat.le_of_ble_eq_true rfl⟩ rfl rfl rfl (c_digit (dd := d) (hd := by omega) (c := r575)   (h_c := by omega)  ) (fun o V' hq => ?_)
                          obtain ⟨r591, rfl, rfl, -⟩ := hq
                          refine .inr ⟨_, rfl, ?_⟩
                          refine jx_ar (pc' := 75) (st' := .long ((y574 : Int64) + (r591)) :: [.ref 66]) rfl rfl rfl rfl ?_
                          obtain ⟨y593, ey593⟩ : ∃ q : Int64, q = (y574 : Int64) + (r591) := ⟨_, rfl⟩
                          rw [← ey593]
                          refine jx_go (tg := 82) rfl rfl ?_
                          have rl594 := i64_rg (y593)
                          refine jr_put (pc' := 85) (i := 14) (z := (y593 : Int64).toInt) rfl rfl (by decide) rfl rfl rfl rfl (congrArg Value.long (i64_of (y593))) rfl ?_
                          have hW595 : Wk (uG Gx 14 ((y593 : Int64).toInt)) Ax := Wk_g hWx (show (-9223372036854775808 : Int) ≤ (y593 : Int64).toInt by omega) (show (y593 : Int64).toInt ≤ (9223372036854775807 : Int) by omega)
                          have hF596 := Fr_g (z := (y593 : Int64).toInt) (i := 14) hFx (by decide)
                          refine jx_inc (pc' := 88) (l' := jSto1 L 1 (.int (i32 ((n + (1)))))) (x := n) rfl gL_1 (by decide) rfl rfl ?_
                          obtain ⟨L597, eL597⟩ : ∃ q, q = jSto1 L 1 (.int (i32 ((n + (1))))) := ⟨_, rfl⟩
                          rw [← eL597]
                          have gL597_0 : jGet L597 0 = some (.ref 66) := eL597 ▸ jg_ne (by decide) gL_0 rfl
                          have gL597_1 : jGet L597 1 = some (.int (i32 ((n + (1))))) := eL597 ▸ jg_eq
                          refine jx_ld (pc' := 89) (l' := L597) (st' := [.ref 66]) rfl (jl_aloadn gL597_0) ?_
                          refine jx_ar (pc' := 90) (st' := [.ref 66, .ref 66]) rfl rfl rfl rfl ?_
                          refine jr_get (pc' := 93) (i := 10) (v := .int (i32 (at1))) rfl rfl (by decide) (rFv_eq (by decide) (show (uG Gx 14 ((y593 : Int64).toInt)) 10 = at1 from (ex_at1))) rfl ?_
                          refine jx_ar (pc' := 94) (st' := [.int (i32 (1)), .int (i32 (at1)), .ref 66]) rfl rfl rfl rfl ?_
                          refine jx_add (pc' := 95) rfl rfl ?_
                          refine jr_put (pc' := 98) (i := 10) (z := (at1 + 1)) rfl rfl (by decide) rfl rfl rfl rfl rfl rfl ?_
                          have hW598 : Wk (uG (uG Gx 14 ((y593 : Int64).toInt)) 10 ((at1 + 1))) Ax := Wk_g hW595 (show (0 : Int) ≤ (at1 + 1) by omega) (show (at1 + 1) ≤ (3002 : Int) by omega)
                          have hF599 := Fr_g (z := (at1 + 1)) (i := 10) hF596 (by decide)
                          refine jx_go (tg := 7) rfl rfl ?_
                          exact ih _ (by omega) L597 (uG (uG Gx 14 ((y593 : Int64).toInt)) 10 ((at1 + 1))) Ax ((n + (1))) ((at1 + 1)) (A 0 ((at1 + 1)).toNat) rfl gL597_0 gL597_1 hW598 hF599 (rfl) ((congrFun (hFx.2 0 rfl) _)) (by omega) (by omega) (by omega) (by omega)
                  · have _q : True := trivial
                    refine jx_ar (pc' := 45) (st' := [.int (i32 (46)), .int (i32 (r552))]) rfl rfl rfl rfl ?_
                    refine jx_icmp_ne (pc' := 48) (tg := 101) rfl rfl rfl (by omega) (by omega) (by omega) (by omega) (fun h600 => ?_) (fun h600 => ?_)
                    · have _q := h600
                      refine jx_ld (pc' := 102) (l' := L) (st' := [.ref 66]) rfl (jl_aloadn gL_0) ?_
                      refine jx_ld (pc' := 103) (l' := L) (st' := [.int (i32 (n)), .ref 66]) rfl (jl_iloadn gL_1) ?_
                      refine jx_ar (pc' := 105) (st' := [.int (i32 (10)), .int (i32 (n)), .ref 66]) rfl rfl rfl rfl ?_
                      refine jx_icmp_le (pc' := 108) (tg := 112) rfl rfl rfl (by omega) (by omega) (by omega) (by omega) (fun h601 => ?_) (fun h601 => ?_)
                      · have _q := h601
                        refine jx_ar (pc' := 113) (st' := [.int (i32 (1)), .ref 66]) rfl rfl rfl rfl ?_
                        refine jr_put (pc' := 116) (i := 11) (z := 1) rfl rfl (by decide) rfl rfl rfl rfl rfl rfl ?_
                        have hW602 : Wk (uG Gx 11 (1)) Ax := Wk_g hWx (show (0 : Int) ≤ 1 by omega) (show 1 ≤ (5 : Int) by omega)
                        have hF603 := Fr_g (z := 1) (i := 11) hFx (by decide)
                        refine jx_rt (v := none) rfl rfl rfl rfl rfl rfl ?_
                        exact ⟨_, _, at1, 1, rfl, rfl, hW602, hF603, (ex_at1), rfl, by omega, by omega, by omega, trivial⟩
                      · have _q := h601
                        refine jx_ar (pc' := 109) (st' := [.int (i32 (5)), .ref 66]) rfl rfl rfl rfl ?_
                        refine jx_go (tg := 113) rfl rfl ?_
                        refine jr_put (pc' := 116) (i := 11) (z := 5) rfl rfl (by decide) rfl rfl rfl rfl rfl rfl ?_
                        have hW604 : Wk (uG Gx 11 (5)) Ax := Wk_g hWx (show (0 : Int) ≤ 5 by omega) (show 5 ≤ (5 : Int) by omega)
                        have hF605 := Fr_g (z := 5) (i := 11) hFx (by decide)
                        refine jx_rt (v := none) rfl rfl rfl rfl rfl rfl ?_
                        exact ⟨_, _, at1, 5, rfl, rfl, hW604, hF605, (ex_at1), rfl, by omega, by omega, by omega, trivial⟩
                    · have _q := h600
                      refine jx_ld (pc' := 49) (l' := L) (st' := [.ref 66]) rfl (jl_aloadn gL_0) ?_
                      refine jx_ld (pc' := 50) (l' := L) (st' := [.int (i32 (n)), .ref 66]) rfl (jl_iloadn gL_1) ?_
                      refine jx_ar (pc' := 52) (st' := [.int (i32 (10)), .int (i32 (n)), .ref 66]) rfl rfl rfl rfl ?_
                      refine jx_icmp_ge (pc' := 55) (tg := 78) rfl rfl rfl (by omega) (by omega) (by omega) (by omega) (fun h606 => ?_) (fun h606 => ?_)
                      · have _q := h606
                        refine jx_ld (pc' := 79) (l' := L) (st' := [.ref 66, .ref 66]) rfl (jl_aloadn gL_0) ?_
                        refine jr_get (pc' := 82) (i := 14) (v := .long (i64 (Gx 14))) rfl rfl (by decide) rfl rfl ?_
                        obtain ⟨y607, ey607⟩ : ∃ q : Int64, q = i64 (Gx 14) := ⟨_, rfl⟩
                        rw [← ey607]
                        have rl608 := i64_rg (y607)
                        refine jr_put (pc' := 85) (i := 14) (z := (y607 : Int64).toInt) rfl rfl (by decide) rfl rfl rfl rfl (congrArg Value.long (i64_of (y607))) rfl ?_
                        have hW609 : Wk (uG Gx 14 ((y607 : Int64).toInt)) Ax := Wk_g hWx (show (-9223372036854775808 : Int) ≤ (y607 : Int64).toInt by omega) (show (y607 : Int64).toInt ≤ (9223372036854775807 : Int) by omega)
                        have hF610 := Fr_g (z := (y607 : Int64).toInt) (i := 14) hFx (by decide)
                        refine jx_inc (pc' := 88) (l' := jSto1 L 1 (.int (i32 ((n + (1)))))) (x := n) rfl gL_1 (by decide) rfl rfl ?_
                        obtain ⟨L611, eL611⟩ : ∃ q, q = jSto1 L 1 (.int (i32 ((n + (1))))) := ⟨_, rfl⟩
                        rw [← eL611]
                        have gL611_0 : jGet L611 0 = some (.ref 66) := eL611 ▸ jg_ne (by decide) gL_0 rfl
                        have gL611_1 : jGet L611 1 = some (.int (i32 ((n + (1))))) := eL611 ▸ jg_eq
                        refine jx_ld (pc' := 89) (l' := L611) (st' := [.ref 66]) rfl (jl_aloadn gL611_0) ?_
                        refine jx_ar (pc' := 90) (st' := [.ref 66, .ref 66]) rfl rfl rfl rfl ?_
                        refine jr_get (pc' := 93) (i := 10) (v := .int (i32 (at1))) rfl rfl (by decide) (rFv_eq (by decide) (show (uG Gx 14 ((y607 : Int64).toInt)) 10 = at1 from (ex_at1))) rfl ?_
                        refine jx_ar (pc' := 94) (st' := [.int (i32 (1)), .int (i32 (at1)), .ref 66]) rfl rfl rfl rfl ?_
                        refine jx_add (pc' := 95) rfl rfl ?_
                        refine jr_put (pc' := 98) (i := 10) (z := (at1 + 1)) rfl rfl (by decide) rfl rfl rfl rfl rfl rfl ?_
                        have hW612 : Wk (uG (uG Gx 14 ((y607 : Int64).toInt)) 10 ((at1 + 1))) Ax := Wk_g hW609 (show (0 : Int) ≤ (at1 + 1) by omega) (show (at1 + 1) ≤ (3002 : Int) by omega)
                        have hF613 := Fr_g (z := (at1 + 1)) (i := 10) hF610 (by decide)
                        refine jx_go (tg := 7) rfl rfl ?_
                        exact ih _ (by omega) L611 (uG (uG Gx 14 ((y607 : Int64).toInt)) 10 ((at1 + 1))) Ax ((n + (1))) ((at1 + 1)) (A 0 ((at1 + 1)).toNat) rfl gL611_0 gL611_1 hW612 hF613 (rfl) ((congrFun (hFx.2 0 rfl) _)) (by omega) (by omega) (by omega) (by omega)
                      · have _q := h606
                        refine jx_hp (pc' := 58) (st' := [.long (38), .ref 66]) rfl rfl rfl rfl rfl rfl ?_
                        refine jx_ld (pc' := 59) (l' := L) (st' := [.ref 66, .long (38), .ref 66]) rfl (jl_aloadn gL_0) ?_
                        refine jr_get (pc' := 62) (i := 14) (v := .long (i64 (Gx 14))) rfl rfl (by decide) rfl rfl ?_
                        obtain ⟨y614, ey614⟩ : ∃ q : Int64, q = i64 (Gx 14) := ⟨_, rfl⟩
                        rw [← ey614]
                        refine jx_ar (pc' := 63) (st' := .long ((38 : Int64) * (y614)) :: [.ref 66]) rfl rfl rfl rfl ?_
                        obtain ⟨y615, ey615⟩ : ∃ q : Int64, q = (38 : Int64) * (y614) := ⟨_, rfl⟩
                        rw [← ey615]
                        refine jx_ld (pc' := 64) (l' := L) (st' := [.ref 66, .long (y615), .ref 66]) rfl (jl_aloadn gL_0) ?_
                        refine jx_ld (pc' := 65) (l' := L) (st' := [.ref 66, .ref 66, .long (y615), .ref 66]) rfl (jl_aloadn gL_0) ?_
                        refine jr_get (pc' := 68) (i := 10) (v := .int (i32 (at1))) rfl rfl (by decide) (rFv_eq (by decide) (show Gx 10 = at1 from (ex_at1))) rfl ?_
                        refine jx_vr (pc' := 71) (as := [.int (i32 (at1))]) (st := [.long (y615), .ref 66]) rfl rfl rfl rfl ⟨rfl, rfl, Nat.le_of_ble_eq_true rfl⟩ rfl rfl (c_sign (dd := d) (hd := by omega) (hW := hWx) (k := at1) (ln := ln) (e_ln := show Gx 9 = ln from ((hFx.1 9 rfl).trans (e_ln))) (le := le) (e_le := show Ax 4 (ln).toNat = le from (congrFun (hFx.2 4 rfl) _).trans (e_le)) (tx := cur) (e_tx := show Ax 0 (at1).toNat = cur from (ex_cur))  (h_k := by omega)  (p_0 := by omega)) (fun o V' hq => ?_)
                        obtain ⟨r616, rfl, rfl, b617, q618⟩ := hq
                        refine .inr ⟨_, rfl, ?_⟩
                        rcases q618 with ⟨a619, a620⟩ | ⟨a621, a622⟩
                        · have _q : True := trivial
                          refine jx_st (pc' := 74) (as := [.int (i32 (r616))]) (st := [.long (y615), .ref 66]) rfl rfl ⟨rfl, Nat.le_of_ble_eq_true rfl⟩ rfl rfl rfl (c_digit (dd := d) (hd := by omega) (c := r616)   (h_c := by omega)  ) (fun o V' hq => ?_)
                          obtain ⟨r623, rfl, rfl, -⟩ := hq
                          refine .inr ⟨_, rfl, ?_⟩
                          refine jx_ar (pc' := 75) (st' := .long ((y615 : Int64) + (r623)) :: [.ref 66]) rfl rfl rfl rfl ?_
                          obtain ⟨y625, ey625⟩ : ∃ q : Int64, q = (y615 : Int64) + (r623) := ⟨_, rfl⟩
                          rw [← ey625]
                          refine jx_go (tg := 82) rfl rfl ?_
                          have rl626 := i64_rg (y625)
                          refine jr_put (pc' := 85) (i := 14) (z := (y625 : Int64).toInt) rfl rfl (by decide) rfl rfl rfl rfl (congrArg Value.long (i64_of (y625))) rfl ?_
                          have hW627 : Wk (uG Gx 14 ((y625 : Int64).toInt)) Ax := Wk_g hWx (show (-9223372036854775808 : Int) ≤ (y625 : Int64).toInt by omega) (show (y625 : Int64).toInt ≤ (9223372036854775807 : Int) by omega)
                          have hF628 := Fr_g (z := (y625 : Int64).toInt) (i := 14) hFx (by decide)
                          refine jx_inc (pc' := 88) (l' := jSto1 L 1 (.int (i32 ((n + (1)))))) (x := n) rfl gL_1 (by decide) rfl rfl ?_
                          obtain ⟨L629, eL629⟩ : ∃ q, q = jSto1 L 1 (.int (i32 ((n + (1))))) := ⟨_, rfl⟩
                          rw [← eL629]
                          have gL629_0 : jGet L629 0 = some (.ref 66) := eL629 ▸ jg_ne (by decide) gL_0 rfl
                          have gL629_1 : jGet L629 1 = some (.int (i32 ((n + (1))))) := eL629 ▸ jg_eq
                          refine jx_ld (pc' := 89) (l' := L629) (st' := [.ref 66]) rfl (jl_aloadn gL629_0) ?_
                          refine jx_ar (pc' := 90) (st' := [.ref 66, .ref 66]) rfl rfl rfl rfl ?_
                          refine jr_get (pc' := 93) (i := 10) (v := .int (i32 (at1))) rfl rfl (by decide) (rFv_eq (by decide) (show (uG Gx 14 ((y625 : Int64).toInt)) 10 = at1 from (ex_at1))) rfl ?_
                          refine jx_ar (pc' := 94) (st' := [.int (i32 (1)), .int (i32 (at1)), .ref 66]) rfl rfl rfl rfl ?_
                          refine jx_add (pc' := 95) rfl rfl ?_
                          refine jr_put (pc' := 98) (i := 10) (z := (at1 + 1)) rfl rfl (by decide) rfl rfl rfl rfl rfl rfl ?_
                          have hW630 : Wk (uG (uG Gx 14 ((y625 : Int64).toInt)) 10 ((at1 + 1))) Ax := Wk_g hW627 (show (0 : Int) ≤ (at1 + 1) by omega) (show (at1 + 1) ≤ (3002 : Int) by omega)
                          have hF631 := Fr_g (z := (at1 + 1)) (i := 10) hF628 (by decide)
                          refine jx_go (tg := 7) rfl rfl ?_
                          exact ih _ (by omega) L629 (uG (uG Gx 14 ((y625 : Int64).toInt)) 10 ((at1 + 1))) Ax ((n + (1))) ((at1 + 1)) (A 0 ((at1 + 1)).toNat) rfl gL629_0 gL629_1 hW630 hF631 (rfl) ((congrFun (hFx.2 0 rfl) _)) (by omega) (by omega) (by omega) (by omega)
                        · have _q : True := trivial
                          refine jx_st (pc' := 74) (as := [.int (i32 (r616))]) (st := [.long (y615), .ref 66]) rfl rfl ⟨rfl, Nat.le_of_ble_eq_true rfl⟩ rfl rfl rfl (c_digit (dd := d) (hd := by omega) (c := r616)   (h_c := by omega)  ) (fun o V' hq => ?_)
                          obtain ⟨r632, rfl, rfl, -⟩ := hq
                          refine .inr ⟨_, rfl, ?_⟩
                          refine jx_ar (pc' := 75) (st' := .long ((y615 : Int64) + (r632)) :: [.ref 66]) rfl rfl rfl rfl ?_
                          obtain ⟨y634, ey634⟩ : ∃ q : Int64, q = (y615 : Int64) + (r632) := ⟨_, rfl⟩
                          rw [← ey634]
                          refine jx_go (tg := 82) rfl rfl ?_
                          have rl635 := i64_rg (y634)
                          refine jr_put (pc' := 85) (i := 14) (z := (y634 : Int64).toInt) rfl rfl (by decide) rfl rfl rfl rfl (congrArg Value.long (i64_of (y634))) rfl ?_
                          have hW636 : Wk (uG Gx 14 ((y634 : Int64).toInt)) Ax := Wk_g hWx (show (-9223372036854775808 : Int) ≤ (y634 : Int64).toInt by omega) (show (y634 : Int64).toInt ≤ (9223372036854775807 : Int) by omega)
                          have hF637 := Fr_g (z := (y634 : Int64).toInt) (i := 14) hFx (by decide)
                          refine jx_inc (pc' := 88) (l' := jSto1 L 1 (.int (i32 ((n + (1)))))) (x := n) rfl gL_1 (by decide) rfl rfl ?_
                          obtain ⟨L638, eL638⟩ : ∃ q, q = jSto1 L 1 (.int (i32 ((n + (1))))) := ⟨_, rfl⟩
                          rw [← eL638]
                          have gL638_0 : jGet L638 0 = some (.ref 66) := eL638 ▸ jg_ne (by decide) gL_0 rfl
                          have gL638_1 : jGet L638 1 = some (.int (i32 ((n + (1))))) := eL638 ▸ jg_eq
                          refine jx_ld (pc' := 89) (l' := L638) (st' := [.ref 66]) rfl (jl_aloadn gL638_0) ?_
                          refine jx_ar (pc' := 90) (st' := [.ref 66, .ref 66]) rfl rfl rfl rfl ?_
                          refine jr_get (pc' := 93) (i := 10) (v := .int (i32 (at1))) rfl rfl (by decide) (rFv_eq (by decide) (show (uG Gx 14 ((y634 : Int64).toInt)) 10 = at1 from (ex_at1))) rfl ?_
                          refine jx_ar (pc' := 94) (st' := [.int (i32 (1)), .int (i32 (at1)), .ref 66]) rfl rfl rfl rfl ?_
                          refine jx_add (pc' := 95) rfl rfl ?_
                          refine jr_put (pc' := 98) (i := 10) (z := (at1 + 1)) rfl rfl (by decide) rfl rfl rfl rfl rfl rfl ?_
                          have hW639 : Wk (uG (uG Gx 14 ((y634 : Int64).toInt)) 10 ((at1 + 1))) Ax := Wk_g hW636 (show (0 : Int) ≤ (at1 + 1) by omega) (show (at1 + 1) ≤ (3002 : Int) by omega)
                          have hF640 := Fr_g (z := (at1 + 1)) (i := 10) hF637 (by decide)
                          refine jx_go (tg := 7) rfl rfl ?_
                          exact ih _ (by omega) L638 (uG (uG Gx 14 ((y634 : Int64).toInt)) 10 ((at1 + 1))) Ax ((n + (1))) ((at1 + 1)) (A 0 ((at1 + 1)).toNat) rfl gL638_0 gL638_1 hW639 hF640 (rfl) ((congrFun (hFx.2 0 rfl) _)) (by omega) (by omega) (by omega) (by omega)
  exact loop5 _ L1 (uG G 14 ((Int64.ofNat 0 : Int64).toInt)) A (0) (at0) (tx) rfl gL1_0 gL1_1 hW3 hF4 ((e_at0)) ((e_tx)) (by omega) (by omega) (by omega) (by omega)
set_option maxRecDepth 20000 in
set_option maxHeartbeats 4000000 in
theorem c_keyToken {X : jX} {dd : Nat} {c0 c1 : jC} {G : Nat → Int} {A : Nat → Nat → Int} {T : jH} {ln le at0 tx : Int} (hd : 2 ≤ dd) (hW : Wk G A) (e_ln : G 9 = ln) (e_le : A 4 (ln).toNat = le) (e_at0 : G 10 = at0) (e_tx : A 0 (at0).toNat = tx) (p_0 : at0 < le) (p_1 : 65 ≤ tx ∧ tx ≤ 90) : wk X dd 262 [.ref 66] (rV c0 c1 G A T) (fun o V' => ∃ (G' : Nat → Int) (A' : Nat → Nat → Int) (at2 : Int) (tk2 : Int), V' = rV c0 c1 G' A' T ∧ o = .inl none ∧ Wk G' A' ∧ Fr [10, 11, 13] [] G A G' A' ∧ G' 10 = at2 ∧ G' 11 = tk2 ∧ (at0 < at2) ∧ (at2 ≤ le) ∧ (1 ≤ tk2) ∧ True) := by
  obtain ⟨d, rfl⟩ : ∃ d, dd = d + 1 := ⟨dd - 1, by omega⟩
  refine wk_of (e := jm262) rfl (Nat.le_of_ble_eq_true rfl) ?_
  show wj X d jm262 (0, [(0, .ref 66)], [], rV c0 c1 G A T) _
  have hF0 : Fr [10, 11, 13] [] G A G A := Fr_rf
  have b_ln : (0 : Int) ≤ ln ∧ ln ≤ 3000 := e_ln ▸ hW.1 9
  have b_le : (0 : Int) ≤ le ∧ le ≤ 3000 := e_le ▸ hW.2 4 _
  have b_at0 : (0 : Int) ≤ at0 ∧ at0 ≤ 3002 := e_at0 ▸ hW.1 10
  have b_tx : (0 : Int) ≤ tx ∧ tx ≤ 126 := e_tx ▸ hW.2 0 _
  refine jx_ar (pc' := 1) (st' := [.int (i32 (0))]) rfl rfl rfl rfl ?_
  refine jx_ld (pc' := 2) (l' := jSto1 [(0, .ref 66)] 1 (.int (i32 (0)))) (st' := []) rfl rfl ?_
  obtain ⟨L1, eL1⟩ : ∃ q, q = jSto1 [(0, .ref 66)] 1 (.int (i32 (0))) := ⟨_, rfl⟩
  rw [← eL1]
  have gL1_0 : jGet L1 0 = some (.ref 66) := eL1 ▸ jg_ne (by decide) (rfl : jGet [(0, .ref 66)] 0 = some (.ref 66)) rfl
  have gL1_1 : jGet L1 1 = some (.int (i32 (0))) := eL1 ▸ jg_eq
  refine jx_ar (pc' := 3) (st' := [.long (Int64.ofNat 0)]) rfl rfl rfl rfl ?_
  refine jx_ld (pc' := 4) (l' := jSto2 L1 2 (.long (Int64.ofNat 0))) (st' := []) rfl rfl ?_
  obtain ⟨L2, eL2⟩ : ∃ q, q = jSto2 L1 2 (.long (Int64.ofNat 0)) := ⟨_, rfl⟩
  rw [← eL2]
  have gL2_0 : jGet L2 0 = some (.ref 66) := eL2 ▸ jg_ne2 (by decide) (by decide) gL1_0 (.inl rfl)
  have gL2_1 : jGet L2 1 = some (.int (i32 (0))) := eL2 ▸ jg_ne2 (by decide) (by decide) gL1_1 (.inl rfl)
  have gL2_2 : jGet L2 2 = some (.long (Int64.ofNat 0)) := eL2 ▸ jg_eq2
  have loop3 : ∀ (m : Nat) (L : jL) (Gx : Nat → Int) (Ax : Nat → Nat → Int) (n at1 cur : Int) (v : Int64), (le - at1).toNat = m → jGet L 0 = some (.ref 66) → jGet L 1 = some (.int (i32 n)) → jGet L 2 = some (.long v) → Wk Gx Ax → Fr [10, 11, 13] [] G A Gx Ax → Gx 10 = at1 → Ax 0 (at1).toNat = cur → ((-2147483648 : Int) ≤ n ∧ n ≤ 2147483647) → (at0 ≤ at1 ∧ at1 ≤ le) → (at1 = at0 → cur = tx) → (n = at1 - at0) → wj X d jm262 (4, L, [], rV c0 c1 Gx Ax T) (fun o V' => ∃ (G' : Nat → Int) (A' : Nat → Nat → Int) (at2 : Int) (tk2 : Int), V' = rV c0 c1 G' A' T ∧ o = .inl none ∧ Wk G' A' ∧ Fr [10, 11, 13] [] G A G' A' ∧ G' 10 = at2 ∧ G' 11 = tk2 ∧ (at0 < at2) ∧ (at2 ≤ le) ∧ (1 ≤ tk2) ∧ True) := by
    intro m
    induction m using Nat.strongRecOn with
    | ind m ih =>
      intro L Gx Ax n at1 cur v hm gL_0 gL_1 gL_2 hWx hFx ex_at1 ex_cur rx_n iv_0 iv_1 iv_2
      have b_at1 : (0 : Int) ≤ at1 ∧ at1 ≤ 3002 := ex_at1 ▸ hWx.1 10
      refine jx_ld (pc' := 5) (l' := L) (st' := [.ref 66]) rfl (jl_aloadn gL_0) ?_
      refine jx_ld (pc' := 6) (l' := L) (st' := [.ref 66, .ref 66]) rfl (jl_aloadn gL_0) ?_
      refine jr_get (pc' := 9) (i := 10) (v := .int (i32 (at1))) rfl rfl (by decide) (rFv_eq (by decide) (show Gx 10 = at1 from (ex_at1))) rfl ?_
      refine jx_vr (pc' := 12) (as := [.int (i32 (at1))]) (st := []) rfl rfl rfl rfl ⟨rfl, rfl, Nat.le_of_ble_eq_true rfl⟩ rfl rfl (c_sign (dd := d) (hd := by omega) (hW := hWx) (k := at1) (ln := ln) (e_ln := show Gx 9 = ln from ((hFx.1 9 rfl).trans (e_ln))) (le := le) (e_le := show Ax 4 (ln).toNat = le from (congrFun (hFx.2 4 rfl) _).trans (e_le)) (tx := cur) (e_tx := show Ax 0 (at1).toNat = cur from (ex_cur))  (h_k := by omega)  (p_0 := by omega)) (fun o V' hq => ?_)
      obtain ⟨r4, rfl, rfl, b5, q6⟩ := hq
      refine .inr ⟨_, rfl, ?_⟩
      rcases q6 with ⟨a7, a8⟩ | ⟨a9, a10⟩
      · have _q : True := trivial
        refine jx_st (pc' := 15) (as := [.int (i32 (r4))]) (st := []) rfl rfl ⟨rfl, Nat.le_of_ble_eq_true rfl⟩ rfl rfl rfl (c_isBig (dd := d) (hd := by omega) (v := r4)   (h_v := by omega)  ) (fun o V' hq => ?_)
        obtain ⟨r11, rfl, rfl, b12, q13⟩ := hq
        refine .inr ⟨_, rfl, ?_⟩
        rcases q13 with ⟨rfl, a14, a15⟩ | ⟨rfl, a16⟩
        · have _q : True := trivial
          refine jx_if_eq (pc' := 18) (tg := 66) rfl rfl rfl (by omega) (by omega) (fun h17 => ?_) (fun h17 => ?_)
          · have _q := h17
            exact absurd h17 (by omega)
          · have _q := h17
            refine jx_ld (pc' := 19) (l' := L) (st' := [.int (i32 (n))]) rfl (jl_iloadn gL_1) ?_
            refine jx_ar (pc' := 21) (st' := [.int (i32 (12)), .int (i32 (n))]) rfl rfl rfl rfl ?_
            refine jx_icmp_ge (pc' := 24) (tg := 48) rfl rfl rfl (by omega) (by omega) (by omega) (by omega) (fun h18 => ?_) (fun h18 => ?_)
            · have _q := h18
              refine jx_ld (pc' := 49) (l' := L) (st' := [.long (v)]) rfl (jl_lloadn gL_2) ?_
              refine jx_ld (pc' := 50) (l' := jSto2 L 2 (.long (v))) (st' := []) rfl rfl ?_
              obtain ⟨L19, eL19⟩ : ∃ q, q = jSto2 L 2 (.long (v)) := ⟨_, rfl⟩
              rw [← eL19]
              have gL19_0 : jGet L19 0 = some (.ref 66) := eL19 ▸ jg_ne2 (by decide) (by decide) gL_0 (.inl rfl)
              have gL19_1 : jGet L19 1 = some (.int (i32 (n))) := eL19 ▸ jg_ne2 (by decide) (by decide) gL_1 (.inl rfl)
              have gL19_2 : jGet L19 2 = some (.long (v)) := eL19 ▸ jg_eq2
              refine jx_inc (pc' := 53) (l' := jSto1 L19 1 (.int (i32 ((n + (1)))))) (x := n) rfl gL19_1 (by decide) rfl rfl ?_
              obtain ⟨L20, eL20⟩ : ∃ q, q = jSto1 L19 1 (.int (i32 ((n + (1))))) := ⟨_, rfl⟩
              rw [← eL20]
              have gL20_0 : jGet L20 0 = some (.ref 66) := eL20 ▸ jg_ne (by decide) gL19_0 rfl
              have gL20_2 : jGet L20 2 = some (.long (v)) := eL20 ▸ jg_nel (by decide) gL19_2 (by decide)
              have gL20_1 : jGet L20 1 = some (.int (i32 ((n + (1))))) := eL20 ▸ jg_eq
              refine jx_ld (pc' := 54) (l' := L20) (st' := [.ref 66]) rfl (jl_aloadn gL20_0) ?_
              refine jx_ar (pc' := 55) (st' := [.ref 66, .ref 66]) rfl rfl rfl rfl ?_
              refine jr_get (pc' := 58) (i := 10) (v := .int (i32 (at1))) rfl rfl (by decide) (rFv_eq (by decide) (show Gx 10 = at1 from (ex_at1))) rfl ?_
              refine jx_ar (pc' := 59) (st' := [.int (i32 (1)), .int (i32 (at1)), .ref 66]) rfl rfl rfl rfl ?_
              refine jx_add (pc' := 60) rfl rfl ?_
              refine jr_put (pc' := 63) (i := 10) (z := (at1 + 1)) rfl rfl (by decide) rfl rfl rfl rfl rfl rfl ?_
              have hW21 : Wk (uG Gx 10 ((at1 + 1))) Ax := Wk_g hWx (show (0 : Int) ≤ (at1 + 1) by omega) (show (at1 + 1) ≤ (3002 : Int) by omega)
              have hF22 := Fr_g (z := (at1 + 1)) (i := 10) hFx (by decide)
              refine jx_go (tg := 4) rfl rfl ?_
              exact ih _ (by omega) L20 (uG Gx 10 ((at1 + 1))) Ax ((n + (1))) ((at1 + 1)) (A 0 ((at1 + 1)).toNat) (v) rfl gL20_0 gL20_1 gL20_2 hW21 hF22 (rfl) ((congrFun (hFx.2 0 rfl) _)) (by omega) (by omega) (by omega) (by omega)
            · have _q := h18
              refine jx_hp (pc' := 27) (st' := [.long (27)]) rfl rfl rfl rfl rfl rfl ?_
              refine jx_ld (pc' := 28) (l' := L) (st' := [.long (v), .long (27)]) rfl (jl_lloadn gL_2) ?_
              refine jx_ar (pc' := 29) (st' := .long ((27 : Int64) * (v)) :: []) rfl rfl rfl rfl ?_
              obtain ⟨y23, ey23⟩ : ∃ q : Int64, q = (27 : Int64) * (v) := ⟨_, rfl⟩
              rw [← ey23]
              refine jx_ld (pc' := 30) (l' := L) (st' := [.ref 66, .long (y23)]) rfl (jl_aloadn gL_0) ?_
              refine jx_ld (pc' := 31) (l' := L) (st' := [.ref 66, .ref 66, .long (y23)]) rfl (jl_aloadn gL_0) ?_
              refine jr_get (pc' := 34) (i := 10) (v := .int (i32 (at1))) rfl rfl (by decide) (rFv_eq (by decide) (show Gx 10 = at1 from (ex_at1))) rfl ?_
              refine jx_vr (pc' := 37) (as := [.int (i32 (at1))]) (st := [.long (y23)]) rfl rfl rfl rfl ⟨rfl, rfl, Nat.le_of_ble_eq_true rfl⟩ rfl rfl (c_sign (dd := d) (hd := by omega) (hW := hWx) (k := at1) (ln := ln) (e_ln := show Gx 9 = ln from ((hFx.1 9 rfl).trans (e_ln))) (le := le) (e_le := show Ax 4 (ln).toNat = le from (congrFun (hFx.2 4 rfl) _).trans (e_le)) (tx := cur) (e_tx := show Ax 0 (at1).toNat = cur from (ex_cur))  (h_k := by omega)  (p_0 := by omega)) (fun o V' hq => ?_)
              obtain ⟨r24, rfl, rfl, b25, q26⟩ := hq
              refine .inr ⟨_, rfl, ?_⟩
              rcases q26 with ⟨a27, a28⟩ | ⟨a29, a30⟩
              · have _q : True := trivial
                refine jx_ar (pc' := 38) (st' := .long ((i32 (r24)).toInt64) :: [.long (y23)]) rfl rfl rfl rfl ?_
                obtain ⟨y31, ey31⟩ : ∃ q : Int64, q = (i32 (r24)).toInt64 := ⟨_, rfl⟩
                rw [← ey31]
                refine jx_ar (pc' := 39) (st' := .long ((y23 : Int64) + (y31)) :: []) rfl rfl rfl rfl ?_
                obtain ⟨y32, ey32⟩ : ∃ q : Int64, q = (y23 : Int64) + (y31) := ⟨_, rfl⟩
                rw [← ey32]
                refine jx_hp (pc' := 42) (st' := [.long (65), .long (y32)]) rfl rfl rfl rfl rfl rfl ?_
                refine jx_ar (pc' := 43) (st' := .long ((y32 : Int64) - (65)) :: []) rfl rfl rfl rfl ?_
                obtain ⟨y33, ey33⟩ : ∃ q : Int64, q = (y32 : Int64) - (65) := ⟨_, rfl⟩
                rw [← ey33]
                refine jx_ar (pc' := 44) (st' := [.long (Int64.ofNat 1), .long (y33)]) rfl rfl rfl rfl ?_
                refine jx_ar (pc' := 45) (st' := .long ((y33 : Int64) + (Int64.ofNat 1)) :: []) rfl rfl rfl rfl ?_
                obtain ⟨y34, ey34⟩ : ∃ q : Int64, q = (y33 : Int64) + (Int64.ofNat 1) := ⟨_, rfl⟩
                rw [← ey34]
                refine jx_go (tg := 49) rfl rfl ?_
                refine jx_ld (pc' := 50) (l' := jSto2 L 2 (.long (y34))) (st' := []) rfl rfl ?_
                obtain ⟨L35, eL35⟩ : ∃ q, q = jSto2 L 2 (.long (y34)) := ⟨_, rfl⟩
                rw [← eL35]
                have gL35_0 : jGet L35 0 = some (.ref 66) := eL35 ▸ jg_ne2 (by decide) (by decide) gL_0 (.inl rfl)
                have gL35_1 : jGet L35 1 = some (.int (i32 (n))) := eL35 ▸ jg_ne2 (by decide) (by decide) gL_1 (.inl rfl)
                have gL35_2 : jGet L35 2 = some (.long (y34)) := eL35 ▸ jg_eq2
                refine jx_inc (pc' := 53) (l' := jSto1 L35 1 (.int (i32 ((n + (1)))))) (x := n) rfl gL35_1 (by decide) rfl rfl ?_
                obtain ⟨L36, eL36⟩ : ∃ q, q = jSto1 L35 1 (.int (i32 ((n + (1))))) := ⟨_, rfl⟩
                rw [← eL36]
                have gL36_0 : jGet L36 0 = some (.ref 66) := eL36 ▸ jg_ne (by decide) gL35_0 rfl
                have gL36_2 : jGet L36 2 = some (.long (y34)) := eL36 ▸ jg_nel (by decide) gL35_2 (by decide)
                have gL36_1 : jGet L36 1 = some (.int (i32 ((n + (1))))) := eL36 ▸ jg_eq
                refine jx_ld (pc' := 54) (l' := L36) (st' := [.ref 66]) rfl (jl_aloadn gL36_0) ?_
                refine jx_ar (pc' := 55) (st' := [.ref 66, .ref 66]) rfl rfl rfl rfl ?_
                refine jr_get (pc' := 58) (i := 10) (v := .int (i32 (at1))) rfl rfl (by decide) (rFv_eq (by decide) (show Gx 10 = at1 from (ex_at1))) rfl ?_
                refine jx_ar (pc' := 59) (st' := [.int (i32 (1)), .int (i32 (at1)), .ref 66]) rfl rfl rfl rfl ?_
                refine jx_add (pc' := 60) rfl rfl ?_
                refine jr_put (pc' := 63) (i := 10) (z := (at1 + 1)) rfl rfl (by decide) rfl rfl rfl rfl rfl rfl ?_
                have hW37 : Wk (uG Gx 10 ((at1 + 1))) Ax := Wk_g hWx (show (0 : Int) ≤ (at1 + 1) by omega) (show (at1 + 1) ≤ (3002 : Int) by omega)
                have hF38 := Fr_g (z := (at1 + 1)) (i := 10) hFx (by decide)
                refine jx_go (tg := 4) rfl rfl ?_
                exact ih _ (by omega) L36 (uG Gx 10 ((at1 + 1))) Ax ((n + (1))) ((at1 + 1)) (A 0 ((at1 + 1)).toNat) (y34) rfl gL36_0 gL36_1 gL36_2 hW37 hF38 (rfl) ((congrFun (hFx.2 0 rfl) _)) (by omega) (by omega) (by omega) (by omega)
              · have _q : True := trivial
                refine jx_ar (pc' := 38) (st' := .long ((i32 (r24)).toInt64) :: [.long (y23)]) rfl rfl rfl rfl ?_
                obtain ⟨y39, ey39⟩ : ∃ q : Int64, q = (i32 (r24)).toInt64 := ⟨_, rfl⟩
                rw [← ey39]
                refine jx_ar (pc' := 39) (st' := .long ((y23 : Int64) + (y39)) :: []) rfl rfl rfl rfl ?_
                obtain ⟨y40, ey40⟩ : ∃ q : Int64, q = (y23 : Int64) + (y39) := ⟨_, rfl⟩
                rw [← ey40]
                refine jx_hp (pc' := 42) (st' := [.long (65), .long (y40)]) rfl rfl rfl rfl rfl rfl ?_
                refine jx_ar (pc' := 43) (st' := .long ((y40 : Int64) - (65)) :: []) rfl rfl rfl rfl ?_
                obtain ⟨y41, ey41⟩ : ∃ q : Int64, q = (y40 : Int64) - (65) := ⟨_, rfl⟩
                rw [← ey41]
                refine jx_ar (pc' := 44) (st' := [.long (Int64.ofNat 1), .long (y41)]) rfl rfl rfl rfl ?_
                refine jx_ar (pc' := 45) (st' := .long ((y41 : Int64) + (Int64.ofNat 1)) :: []) rfl rfl rfl rfl ?_
                obtain ⟨y42, ey42⟩ : ∃ q : Int64, q = (y41 : Int64) + (Int64.ofNat 1) := ⟨_, rfl⟩
                rw [← ey42]
                refine jx_go (tg := 49) rfl rfl ?_
                refine jx_ld (pc' := 50) (l' := jSto2 L 2 (.long (y42))) (st' := []) rfl rfl ?_
                obtain ⟨L43, eL43⟩ : ∃ q, q = jSto2 L 2 (.long (y42)) := ⟨_, rfl⟩
                rw [← eL43]
                have gL43_0 : jGet L43 0 = some (.ref 66) := eL43 ▸ jg_ne2 (by decide) (by decide) gL_0 (.inl rfl)
                have gL43_1 : jGet L43 1 = some (.int (i32 (n))) := eL43 ▸ jg_ne2 (by decide) (by decide) gL_1 (.inl rfl)
                have gL43_2 : jGet L43 2 = some (.long (y42)) := eL43 ▸ jg_eq2
                refine jx_inc (pc' := 53) (l' := jSto1 L43 1 (.int (i32 ((n + (1)))))) (x := n) rfl gL43_1 (by decide) rfl rfl ?_
                obtain ⟨L44, eL44⟩ : ∃ q, q = jSto1 L43 1 (.int (i32 ((n + (1))))) := ⟨_, rfl⟩
                rw [← eL44]
                have gL44_0 : jGet L44 0 = some (.ref 66) := eL44 ▸ jg_ne (by decide) gL43_0 rfl
                have gL44_2 : jGet L44 2 = some (.long (y42)) := eL44 ▸ jg_nel (by decide) gL43_2 (by decide)
                have gL44_1 : jGet L44 1 = some (.int (i32 ((n + (1))))) := eL44 ▸ jg_eq
                refine jx_ld (pc' := 54) (l' := L44) (st' := [.ref 66]) rfl (jl_aloadn gL44_0) ?_
                refine jx_ar (pc' := 55) (st' := [.ref 66, .ref 66]) rfl rfl rfl rfl ?_
                refine jr_get (pc' := 58) (i := 10) (v := .int (i32 (at1))) rfl rfl (by decide) (rFv_eq (by decide) (show Gx 10 = at1 from (ex_at1))) rfl ?_
                refine jx_ar (pc' := 59) (st' := [.int (i32 (1)), .int (i32 (at1)), .ref 66]) rfl rfl rfl rfl ?_
                refine jx_add (pc' := 60) rfl rfl ?_
                refine jr_put (pc' := 63) (i := 10) (z := (at1 + 1)) rfl rfl (by decide) rfl rfl rfl rfl rfl rfl ?_
                have hW45 : Wk (uG Gx 10 ((at1 + 1))) Ax := Wk_g hWx (show (0 : Int) ≤ (at1 + 1) by omega) (show (at1 + 1) ≤ (3002 : Int) by omega)
                have hF46 := Fr_g (z := (at1 + 1)) (i := 10) hFx (by decide)
                refine jx_go (tg := 4) rfl rfl ?_
                exact ih _ (by omega) L44 (uG Gx 10 ((at1 + 1))) Ax ((n + (1))) ((at1 + 1)) (A 0 ((at1 + 1)).toNat) (y42) rfl gL44_0 gL44_1 gL44_2 hW45 hF46 (rfl) ((congrFun (hFx.2 0 rfl) _)) (by omega) (by omega) (by omega) (by omega)
        · have _q : True := trivial
          refine jx_if_eq (pc' := 18) (tg := 66) rfl rfl rfl (by omega) (by omega) (fun h47 => ?_) (fun h47 => ?_)
          · have _q := h47
            refine jx_ld (pc' := 67) (l' := L) (st' := [.ref 66]) rfl (jl_aloadn gL_0) ?_
            refine jx_ld (pc' := 68) (l' := L) (st' := [.int (i32 (n)), .ref 66]) rfl (jl_iloadn gL_1) ?_
            refine jx_ar (pc' := 70) (st' := [.int (i32 (12)), .int (i32 (n)), .ref 66]) rfl rfl rfl rfl ?_
            refine jx_icmp_le (pc' := 73) (tg := 77) rfl rfl rfl (by omega) (by omega) (by omega) (by omega) (fun h48 => ?_) (fun h48 => ?_)
            · have _q := h48
              refine jx_ld (pc' := 78) (l' := L) (st' := [.ref 66, .ref 66]) rfl (jl_aloadn gL_0) ?_
              refine jx_ld (pc' := 79) (l' := L) (st' := [.long (v), .ref 66, .ref 66]) rfl (jl_lloadn gL_2) ?_
              refine jx_vr (pc' := 82) (as := [.long (v)]) (st := [.ref 66]) rfl rfl rfl rfl ⟨rfl, rfl, Nat.le_of_ble_eq_true rfl⟩ rfl rfl (c_keyOf (dd := d) (hd := by omega) (hW := hWx) (v := v)     ) (fun o V' hq => ?_)
              obtain ⟨r49, rfl, rfl, b50, -⟩ := hq
              refine .inr ⟨_, rfl, ?_⟩
              refine jr_put (pc' := 85) (i := 13) (z := r49) rfl rfl (by decide) rfl rfl rfl rfl rfl rfl ?_
              have hW52 : Wk (uG Gx 13 (r49)) Ax := Wk_g hWx (show (-2147483648 : Int) ≤ r49 by omega) (show r49 ≤ (2147483647 : Int) by omega)
              have hF53 := Fr_g (z := r49) (i := 13) hFx (by decide)
              refine jx_ld (pc' := 86) (l' := L) (st' := [.ref 66]) rfl (jl_aloadn gL_0) ?_
              refine jx_ld (pc' := 87) (l' := L) (st' := [.ref 66, .ref 66]) rfl (jl_aloadn gL_0) ?_
              refine jr_get (pc' := 90) (i := 13) (v := .int (i32 (r49))) rfl rfl (by decide) rfl rfl ?_
              refine jx_if_ne (pc' := 93) (tg := 97) rfl rfl rfl (by omega) (by omega) (fun h54 => ?_) (fun h54 => ?_)
              · have _q := h54
                refine jx_ar (pc' := 98) (st' := [.int (i32 (2)), .ref 66]) rfl rfl rfl rfl ?_
                refine jr_put (pc' := 101) (i := 11) (z := 2) rfl rfl (by decide) rfl rfl rfl rfl rfl rfl ?_
                have hW55 : Wk (uG (uG Gx 13 (r49)) 11 (2)) Ax := Wk_g hW52 (show (0 : Int) ≤ 2 by omega) (show 2 ≤ (5 : Int) by omega)
                have hF56 := Fr_g (z := 2) (i := 11) hF53 (by decide)
                refine jx_rt (v := none) rfl rfl rfl rfl rfl rfl ?_
                exact ⟨_, _, at1, 2, rfl, rfl, hW55, hF56, (ex_at1), rfl, by omega, by omega, by omega, trivial⟩
              · have _q := h54
                refine jx_ar (pc' := 94) (st' := [.int (i32 (5)), .ref 66]) rfl rfl rfl rfl ?_
                refine jx_go (tg := 98) rfl rfl ?_
                refine jr_put (pc' := 101) (i := 11) (z := 5) rfl rfl (by decide) rfl rfl rfl rfl rfl rfl ?_
                have hW57 : Wk (uG (uG Gx 13 (r49)) 11 (5)) Ax := Wk_g hW52 (show (0 : Int) ≤ 5 by omega) (show 5 ≤ (5 : Int) by omega)
                have hF58 := Fr_g (z := 5) (i := 11) hF53 (by decide)
                refine jx_rt (v := none) rfl rfl rfl rfl rfl rfl ?_
                exact ⟨_, _, at1, 5, rfl, rfl, hW57, hF58, (ex_at1), rfl, by omega, by omega, by omega, trivial⟩
            · have _q := h48
              refine jx_ar (pc' := 74) (st' := [.int (i32 (0)), .ref 66]) rfl rfl rfl rfl ?_
              refine jx_go (tg := 82) rfl rfl ?_
              refine jr_put (pc' := 85) (i := 13) (z := 0) rfl rfl (by decide) rfl rfl rfl rfl rfl rfl ?_
              have hW59 : Wk (uG Gx 13 (0)) Ax := Wk_g hWx (show (-2147483648 : Int) ≤ 0 by omega) (show 0 ≤ (2147483647 : Int) by omega)
              have hF60 := Fr_g (z := 0) (i := 13) hFx (by decide)
              refine jx_ld (pc' := 86) (l' := L) (st' := [.ref 66]) rfl (jl_aloadn gL_0) ?_
              refine jx_ld (pc' := 87) (l' := L) (st' := [.ref 66, .ref 66]) rfl (jl_aloadn gL_0) ?_
              refine jr_get (pc' := 90) (i := 13) (v := .int (i32 (0))) rfl rfl (by decide) rfl rfl ?_
              refine jx_if_ne (pc' := 93) (tg := 97) rfl rfl rfl (by omega) (by omega) (fun h61 => ?_) (fun h61 => ?_)
              · have _q := h61
                exact absurd h61 (by omega)
              · have _q := h61
                refine jx_ar (pc' := 94) (st' := [.int (i32 (5)), .ref 66]) rfl rfl rfl rfl ?_
                refine jx_go (tg := 98) rfl rfl ?_
                refine jr_put (pc' := 101) (i := 11) (z := 5) rfl rfl (by decide) rfl rfl rfl rfl rfl rfl ?_
                have hW62 : Wk (uG (uG Gx 13 (0)) 11 (5)) Ax := Wk_g hW59 (show (0 : Int) ≤ 5 by omega) (show 5 ≤ (5 : Int) by omega)
                have hF63 := Fr_g (z := 5) (i := 11) hF60 (by decide)
                refine jx_rt (v := none) rfl rfl rfl rfl rfl rfl ?_
                exact ⟨_, _, at1, 5, rfl, rfl, hW62, hF63, (ex_at1), rfl, by omega, by omega, by omega, trivial⟩
          · have _q := h47
            exact absurd h47 (by omega)
      · have _q : True := trivial
        refine jx_st (pc' := 15) (as := [.int (i32 (r4))]) (st := []) rfl rfl ⟨rfl, Nat.le_of_ble_eq_true rfl⟩ rfl rfl rfl (c_isBig (dd := d) (hd := by omega) (v := r4)   (h_v := by omega)  ) (fun o V' hq => ?_)
        obtain ⟨r64, rfl, rfl, b65, q66⟩ := hq
        refine .inr ⟨_, rfl, ?_⟩
        rcases q66 with ⟨rfl, a67, a68⟩ | ⟨rfl, a69⟩
        · have _q : True := trivial
          refine jx_if_eq (pc' := 18) (tg := 66) rfl rfl rfl (by omega) (by omega) (fun h70 => ?_) (fun h70 => ?_)
          · have _q := h70
            exact absurd h70 (by omega)
          · have _q := h70
            refine jx_ld (pc' := 19) (l' := L) (st' := [.int (i32 (n))]) rfl (jl_iloadn gL_1) ?_
            refine jx_ar (pc' := 21) (st' := [.int (i32 (12)), .int (i32 (n))]) rfl rfl rfl rfl ?_
            refine jx_icmp_ge (pc' := 24) (tg := 48) rfl rfl rfl (by omega) (by omega) (by omega) (by omega) (fun h71 => ?_) (fun h71 => ?_)
            · have _q := h71
              refine jx_ld (pc' := 49) (l' := L) (st' := [.long (v)]) rfl (jl_lloadn gL_2) ?_
              refine jx_ld (pc' := 50) (l' := jSto2 L 2 (.long (v))) (st' := []) rfl rfl ?_
              obtain ⟨L72, eL72⟩ : ∃ q, q = jSto2 L 2 (.long (v)) := ⟨_, rfl⟩
              rw [← eL72]
              have gL72_0 : jGet L72 0 = some (.ref 66) := eL72 ▸ jg_ne2 (by decide) (by decide) gL_0 (.inl rfl)
              have gL72_1 : jGet L72 1 = some (.int (i32 (n))) := eL72 ▸ jg_ne2 (by decide) (by decide) gL_1 (.inl rfl)
              have gL72_2 : jGet L72 2 = some (.long (v)) := eL72 ▸ jg_eq2
              refine jx_inc (pc' := 53) (l' := jSto1 L72 1 (.int (i32 ((n + (1)))))) (x := n) rfl gL72_1 (by decide) rfl rfl ?_
              obtain ⟨L73, eL73⟩ : ∃ q, q = jSto1 L72 1 (.int (i32 ((n + (1))))) := ⟨_, rfl⟩
              rw [← eL73]
              have gL73_0 : jGet L73 0 = some (.ref 66) := eL73 ▸ jg_ne (by decide) gL72_0 rfl
              have gL73_2 : jGet L73 2 = some (.long (v)) := eL73 ▸ jg_nel (by decide) gL72_2 (by decide)
              have gL73_1 : jGet L73 1 = some (.int (i32 ((n + (1))))) := eL73 ▸ jg_eq
              refine jx_ld (pc' := 54) (l' := L73) (st' := [.ref 66]) rfl (jl_aloadn gL73_0) ?_
              refine jx_ar (pc' := 55) (st' := [.ref 66, .ref 66]) rfl rfl rfl rfl ?_
              refine jr_get (pc' := 58) (i := 10) (v := .int (i32 (at1))) rfl rfl (by decide) (rFv_eq (by decide) (show Gx 10 = at1 from (ex_at1))) rfl ?_
              refine jx_ar (pc' := 59) (st' := [.int (i32 (1)), .int (i32 (at1)), .ref 66]) rfl rfl rfl rfl ?_
              refine jx_add (pc' := 60) rfl rfl ?_
              refine jr_put (pc' := 63) (i := 10) (z := (at1 + 1)) rfl rfl (by decide) rfl rfl rfl rfl rfl rfl ?_
              have hW74 : Wk (uG Gx 10 ((at1 + 1))) Ax := Wk_g hWx (show (0 : Int) ≤ (at1 + 1) by omega) (show (at1 + 1) ≤ (3002 : Int) by omega)
              have hF75 := Fr_g (z := (at1 + 1)) (i := 10) hFx (by decide)
              refine jx_go (tg := 4) rfl rfl ?_
              exact ih _ (by omega) L73 (uG Gx 10 ((at1 + 1))) Ax ((n + (1))) ((at1 + 1)) (A 0 ((at1 + 1)).toNat) (v) rfl gL73_0 gL73_1 gL73_2 hW74 hF75 (rfl) ((congrFun (hFx.2 0 rfl) _)) (by omega) (by omega) (by omega) (by omega)
            · have _q := h71
              refine jx_hp (pc' := 27) (st' := [.long (27)]) rfl rfl rfl rfl rfl rfl ?_
              refine jx_ld (pc' := 28) (l' := L) (st' := [.long (v), .long (27)]) rfl (jl_lloadn gL_2) ?_
              refine jx_ar (pc' := 29) (st' := .long ((27 : Int64) * (v)) :: []) rfl rfl rfl rfl ?_
              obtain ⟨y76, ey76⟩ : ∃ q : Int64, q = (27 : Int64) * (v) := ⟨_, rfl⟩
              rw [← ey76]
              refine jx_ld (pc' := 30) (l' := L) (st' := [.ref 66, .long (y76)]) rfl (jl_aloadn gL_0) ?_
              refine jx_ld (pc' := 31) (l' := L) (st' := [.ref 66, .ref 66, .long (y76)]) rfl (jl_aloadn gL_0) ?_
              refine jr_get (pc' := 34) (i := 10) (v := .int (i32 (at1))) rfl rfl (by decide) (rFv_eq (by decide) (show Gx 10 = at1 from (ex_at1))) rfl ?_
              refine jx_vr (pc' := 37) (as := [.int (i32 (at1))]) (st := [.long (y76)]) rfl rfl rfl rfl ⟨rfl, rfl, Nat.le_of_ble_eq_true rfl⟩ rfl rfl (c_sign (dd := d) (hd := by omega) (hW := hWx) (k := at1) (ln := ln) (e_ln := show Gx 9 = ln from ((hFx.1 9 rfl).trans (e_ln))) (le := le) (e_le := show Ax 4 (ln).toNat = le from (congrFun (hFx.2 4 rfl) _).trans (e_le)) (tx := cur) (e_tx := show Ax 0 (at1).toNat = cur from (ex_cur))  (h_k := by omega)  (p_0 := by omega)) (fun o V' hq => ?_)
              obtain ⟨r77, rfl, rfl, b78, q79⟩ := hq
              refine .inr ⟨_, rfl, ?_⟩
              rcases q79 with ⟨a80, a81⟩ | ⟨a82, a83⟩
              · have _q : True := trivial
                refine jx_ar (pc' := 38) (st' := .long ((i32 (r77)).toInt64) :: [.long (y76)]) rfl rfl rfl rfl ?_
                obtain ⟨y84, ey84⟩ : ∃ q : Int64, q = (i32 (r77)).toInt64 := ⟨_, rfl⟩
                rw [← ey84]
                refine jx_ar (pc' := 39) (st' := .long ((y76 : Int64) + (y84)) :: []) rfl rfl rfl rfl ?_
                obtain ⟨y85, ey85⟩ : ∃ q : Int64, q = (y76 : Int64) + (y84) := ⟨_, rfl⟩
                rw [← ey85]
                refine jx_hp (pc' := 42) (st' := [.long (65), .long (y85)]) rfl rfl rfl rfl rfl rfl ?_
                refine jx_ar (pc' := 43) (st' := .long ((y85 : Int64) - (65)) :: []) rfl rfl rfl rfl ?_
                obtain ⟨y86, ey86⟩ : ∃ q : Int64, q = (y85 : Int64) - (65) := ⟨_, rfl⟩
                rw [← ey86]
                refine jx_ar (pc' := 44) (st' := [.long (Int64.ofNat 1), .long (y86)]) rfl rfl rfl rfl ?_
                refine jx_ar (pc' := 45) (st' := .long ((y86 : Int64) + (Int64.ofNat 1)) :: []) rfl rfl rfl rfl ?_
                obtain ⟨y87, ey87⟩ : ∃ q : Int64, q = (y86 : Int64) + (Int64.ofNat 1) := ⟨_, rfl⟩
                rw [← ey87]
                refine jx_go (tg := 49) rfl rfl ?_
                refine jx_ld (pc' := 50) (l' := jSto2 L 2 (.long (y87))) (st' := []) rfl rfl ?_
                obtain ⟨L88, eL88⟩ : ∃ q, q = jSto2 L 2 (.long (y87)) := ⟨_, rfl⟩
                rw [← eL88]
                have gL88_0 : jGet L88 0 = some (.ref 66) := eL88 ▸ jg_ne2 (by decide) (by decide) gL_0 (.inl rfl)
                have gL88_1 : jGet L88 1 = some (.int (i32 (n))) := eL88 ▸ jg_ne2 (by decide) (by decide) gL_1 (.inl rfl)
                have gL88_2 : jGet L88 2 = some (.long (y87)) := eL88 ▸ jg_eq2
                refine jx_inc (pc' := 53) (l' := jSto1 L88 1 (.int (i32 ((n + (1)))))) (x := n) rfl gL88_1 (by decide) rfl rfl ?_
                obtain ⟨L89, eL89⟩ : ∃ q, q = jSto1 L88 1 (.int (i32 ((n + (1))))) := ⟨_, rfl⟩
                rw [← eL89]
                have gL89_0 : jGet L89 0 = some (.ref 66) := eL89 ▸ jg_ne (by decide) gL88_0 rfl
                have gL89_2 : jGet L89 2 = some (.long (y87)) := eL89 ▸ jg_nel (by decide) gL88_2 (by decide)
                have gL89_1 : jGet L89 1 = some (.int (i32 ((n + (1))))) := eL89 ▸ jg_eq
                refine jx_ld (pc' := 54) (l' := L89) (st' := [.ref 66]) rfl (jl_aloadn gL89_0) ?_
                refine jx_ar (pc' := 55) (st' := [.ref 66, .ref 66]) rfl rfl rfl rfl ?_
                refine jr_get (pc' := 58) (i := 10) (v := .int (i32 (at1))) rfl rfl (by decide) (rFv_eq (by decide) (show Gx 10 = at1 from (ex_at1))) rfl ?_
                refine jx_ar (pc' := 59) (st' := [.int (i32 (1)), .int (i32 (at1)), .ref 66]) rfl rfl rfl rfl ?_
                refine jx_add (pc' := 60) rfl rfl ?_
                refine jr_put (pc' := 63) (i := 10) (z := (at1 + 1)) rfl rfl (by decide) rfl rfl rfl rfl rfl rfl ?_
                have hW90 : Wk (uG Gx 10 ((at1 + 1))) Ax := Wk_g hWx (show (0 : Int) ≤ (at1 + 1) by omega) (show (at1 + 1) ≤ (3002 : Int) by omega)
                have hF91 := Fr_g (z := (at1 + 1)) (i := 10) hFx (by decide)
                refine jx_go (tg := 4) rfl rfl ?_
                exact ih _ (by omega) L89 (uG Gx 10 ((at1 + 1))) Ax ((n + (1))) ((at1 + 1)) (A 0 ((at1 + 1)).toNat) (y87) rfl gL89_0 gL89_1 gL89_2 hW90 hF91 (rfl) ((congrFun (hFx.2 0 rfl) _)) (by omega) (by omega) (by omega) (by omega)
              · have _q : True := trivial
                refine jx_ar (pc' := 38) (st' := .long ((i32 (r77)).toInt64) :: [.long (y76)]) rfl rfl rfl rfl ?_
                obtain ⟨y92, ey92⟩ : ∃ q : Int64, q = (i32 (r77)).toInt64 := ⟨_, rfl⟩
                rw [← ey92]
                refine jx_ar (pc' := 39) (st' := .long ((y76 : Int64) + (y92)) :: []) rfl rfl rfl rfl ?_
                obtain ⟨y93, ey93⟩ : ∃ q : Int64, q = (y76 : Int64) + (y92) := ⟨_, rfl⟩
                rw [← ey93]
                refine jx_hp (pc' := 42) (st' := [.long (65), .long (y93)]) rfl rfl rfl rfl rfl rfl ?_
                refine jx_ar (pc' := 43) (st' := .long ((y93 : Int64) - (65)) :: []) rfl rfl rfl rfl ?_
                obtain ⟨y94, ey94⟩ : ∃ q : Int64, q = (y93 : Int64) - (65) := ⟨_, rfl⟩
                rw [← ey94]
                refine jx_ar (pc' := 44) (st' := [.long (Int64.ofNat 1), .long (y94)]) rfl rfl rfl rfl ?_
                refine jx_ar (pc' := 45) (st' := .long ((y94 : Int64) + (Int64.ofNat 1)) :: []) rfl rfl rfl rfl ?_
                obtain ⟨y95, ey95⟩ : ∃ q : Int64, q = (y94 : Int64) + (Int64.ofNat 1) := ⟨_, rfl⟩
                rw [← ey95]
                refine jx_go (tg := 49) rfl rfl ?_
                refine jx_ld (pc' := 50) (l' := jSto2 L 2 (.long (y95))) (st' := []) rfl rfl ?_
                obtain ⟨L96, eL96⟩ : ∃ q, q = jSto2 L 2 (.long (y95)) := ⟨_, rfl⟩
                rw [← eL96]
                have gL96_0 : jGet L96 0 = some (.ref 66) := eL96 ▸ jg_ne2 (by decide) (by decide) gL_0 (.inl rfl)
                have gL96_1 : jGet L96 1 = some (.int (i32 (n))) := eL96 ▸ jg_ne2 (by decide) (by decide) gL_1 (.inl rfl)
                have gL96_2 : jGet L96 2 = some (.long (y95)) := eL96 ▸ jg_eq2
                refine jx_inc (pc' := 53) (l' := jSto1 L96 1 (.int (i32 ((n + (1)))))) (x := n) rfl gL96_1 (by decide) rfl rfl ?_
                obtain ⟨L97, eL97⟩ : ∃ q, q = jSto1 L96 1 (.int (i32 ((n + (1))))) := ⟨_, rfl⟩
                rw [← eL97]
                have gL97_0 : jGet L97 0 = some (.ref 66) := eL97 ▸ jg_ne (by decide) gL96_0 rfl
                have gL97_2 : jGet L97 2 = some (.long (y95)) := eL97 ▸ jg_nel (by decide) gL96_2 (by decide)
                have gL97_1 : jGet L97 1 = some (.int (i32 ((n + (1))))) := eL97 ▸ jg_eq
                refine jx_ld (pc' := 54) (l' := L97) (st' := [.ref 66]) rfl (jl_aloadn gL97_0) ?_
                refine jx_ar (pc' := 55) (st' := [.ref 66, .ref 66]) rfl rfl rfl rfl ?_
                refine jr_get (pc' := 58) (i := 10) (v := .int (i32 (at1))) rfl rfl (by decide) (rFv_eq (by decide) (show Gx 10 = at1 from (ex_at1))) rfl ?_
                refine jx_ar (pc' := 59) (st' := [.int (i32 (1)), .int (i32 (at1)), .ref 66]) rfl rfl rfl rfl ?_
                refine jx_add (pc' := 60) rfl rfl ?_
                refine jr_put (pc' := 63) (i := 10) (z := (at1 + 1)) rfl rfl (by decide) rfl rfl rfl rfl rfl rfl ?_
                have hW98 : Wk (uG Gx 10 ((at1 + 1))) Ax := Wk_g hWx (show (0 : Int) ≤ (at1 + 1) by omega) (show (at1 + 1) ≤ (3002 : Int) by omega)
                have hF99 := Fr_g (z := (at1 + 1)) (i := 10) hFx (by decide)
                refine jx_go (tg := 4) rfl rfl ?_
                exact ih _ (by omega) L97 (uG Gx 10 ((at1 + 1))) Ax ((n + (1))) ((at1 + 1)) (A 0 ((at1 + 1)).toNat) (y95) rfl gL97_0 gL97_1 gL97_2 hW98 hF99 (rfl) ((congrFun (hFx.2 0 rfl) _)) (by omega) (by omega) (by omega) (by omega)
        · have _q : True := trivial
          refine jx_if_eq (pc' := 18) (tg := 66) rfl rfl rfl (by omega) (by omega) (fun h100 => ?_) (fun h100 => ?_)
          · have _q := h100
            refine jx_ld (pc' := 67) (l' := L) (st' := [.ref 66]) rfl (jl_aloadn gL_0) ?_
            refine jx_ld (pc' := 68) (l' := L) (st' := [.int (i32 (n)), .ref 66]) rfl (jl_iloadn gL_1) ?_
            refine jx_ar (pc' := 70) (st' := [.int (i32 (12)), .int (i32 (n)), .ref 66]) rfl rfl rfl rfl ?_
            refine jx_icmp_le (pc' := 73) (tg := 77) rfl rfl rfl (by omega) (by omega) (by omega) (by omega) (fun h101 => ?_) (fun h101 => ?_)
            · have _q := h101
              refine jx_ld (pc' := 78) (l' := L) (st' := [.ref 66, .ref 66]) rfl (jl_aloadn gL_0) ?_
              refine jx_ld (pc' := 79) (l' := L) (st' := [.long (v), .ref 66, .ref 66]) rfl (jl_lloadn gL_2) ?_
              refine jx_vr (pc' := 82) (as := [.long (v)]) (st := [.ref 66]) rfl rfl rfl rfl ⟨rfl, rfl, Nat.le_of_ble_eq_true rfl⟩ rfl rfl (c_keyOf (dd := d) (hd := by omega) (hW := hWx) (v := v)     ) (fun o V' hq => ?_)
              obtain ⟨r102, rfl, rfl, b103, -⟩ := hq
              refine .inr ⟨_, rfl, ?_⟩
              refine jr_put (pc' := 85) (i := 13) (z := r102) rfl rfl (by decide) rfl rfl rfl rfl rfl rfl ?_
              have hW105 : Wk (uG Gx 13 (r102)) Ax := Wk_g hWx (show (-2147483648 : Int) ≤ r102 by omega) (show r102 ≤ (2147483647 : Int) by omega)
              have hF106 := Fr_g (z := r102) (i := 13) hFx (by decide)
              refine jx_ld (pc' := 86) (l' := L) (st' := [.ref 66]) rfl (jl_aloadn gL_0) ?_
              refine jx_ld (pc' := 87) (l' := L) (st' := [.ref 66, .ref 66]) rfl (jl_aloadn gL_0) ?_
              refine jr_get (pc' := 90) (i := 13) (v := .int (i32 (r102))) rfl rfl (by decide) rfl rfl ?_
              refine jx_if_ne (pc' := 93) (tg := 97) rfl rfl rfl (by omega) (by omega) (fun h107 => ?_) (fun h107 => ?_)
              · have _q := h107
                refine jx_ar (pc' := 98) (st' := [.int (i32 (2)), .ref 66]) rfl rfl rfl rfl ?_
                refine jr_put (pc' := 101) (i := 11) (z := 2) rfl rfl (by decide) rfl rfl rfl rfl rfl rfl ?_
                have hW108 : Wk (uG (uG Gx 13 (r102)) 11 (2)) Ax := Wk_g hW105 (show (0 : Int) ≤ 2 by omega) (show 2 ≤ (5 : Int) by omega)
                have hF109 := Fr_g (z := 2) (i := 11) hF106 (by decide)
                refine jx_rt (v := none) rfl rfl rfl rfl rfl rfl ?_
                exact ⟨_, _, at1, 2, rfl, rfl, hW108, hF109, (ex_at1), rfl, by omega, by omega, by omega, trivial⟩
              · have _q := h107
                refine jx_ar (pc' := 94) (st' := [.int (i32 (5)), .ref 66]) rfl rfl rfl rfl ?_
                refine jx_go (tg := 98) rfl rfl ?_
                refine jr_put (pc' := 101) (i := 11) (z := 5) rfl rfl (by decide) rfl rfl rfl rfl rfl rfl ?_
                have hW110 : Wk (uG (uG Gx 13 (r102)) 11 (5)) Ax := Wk_g hW105 (show (0 : Int) ≤ 5 by omega) (show 5 ≤ (5 : Int) by omega)
                have hF111 := Fr_g (z := 5) (i := 11) hF106 (by decide)
                refine jx_rt (v := none) rfl rfl rfl rfl rfl rfl ?_
                exact ⟨_, _, at1, 5, rfl, rfl, hW110, hF111, (ex_at1), rfl, by omega, by omega, by omega, trivial⟩
            · have _q := h101
              refine jx_ar (pc' := 74) (st' := [.int (i32 (0)), .ref 66]) rfl rfl rfl rfl ?_
              refine jx_go (tg := 82) rfl rfl ?_
              refine jr_put (pc' := 85) (i := 13) (z := 0) rfl rfl (by decide) rfl rfl rfl rfl rfl rfl ?_
              have hW112 : Wk (uG Gx 13 (0)) Ax := Wk_g hWx (show (-2147483648 : Int) ≤ 0 by omega) (show 0 ≤ (2147483647 : Int) by omega)
              have hF113 := Fr_g (z := 0) (i := 13) hFx (by decide)
              refine jx_ld (pc' := 86) (l' := L) (st' := [.ref 66]) rfl (jl_aloadn gL_0) ?_
              refine jx_ld (pc' := 87) (l' := L) (st' := [.ref 66, .ref 66]) rfl (jl_aloadn gL_0) ?_
              refine jr_get (pc' := 90) (i := 13) (v := .int (i32 (0))) rfl rfl (by decide) rfl rfl ?_
              refine jx_if_ne (pc' := 93) (tg := 97) rfl rfl rfl (by omega) (by omega) (fun h114 => ?_) (fun h114 => ?_)
              · have _q := h114
                exact absurd h114 (by omega)
              · have _q := h114
                refine jx_ar (pc' := 94) (st' := [.int (i32 (5)), .ref 66]) rfl rfl rfl rfl ?_
                refine jx_go (tg := 98) rfl rfl ?_
                refine jr_put (pc' := 101) (i := 11) (z := 5) rfl rfl (by decide) rfl rfl rfl rfl rfl rfl ?_
                have hW115 : Wk (uG (uG Gx 13 (0)) 11 (5)) Ax := Wk_g hW112 (show (0 : Int) ≤ 5 by omega) (show 5 ≤ (5 : Int) by omega)
                have hF116 := Fr_g (z := 5) (i := 11) hF113 (by decide)
                refine jx_rt (v := none) rfl rfl rfl rfl rfl rfl ?_
                exact ⟨_, _, at1, 5, rfl, rfl, hW115, hF116, (ex_at1), rfl, by omega, by omega, by omega, trivial⟩
          · have _q := h100
            exact absurd h100 (by omega)
  exact loop3 _ L2 G A (0) (at0) (tx) (Int64.ofNat 0) rfl gL2_0 gL2_1 gL2_2 hW hF0 ((e_at0)) ((e_tx)) (by omega) (by omega) (by omega) (by omega)
set_option maxRecDepth 20000 in
set_option maxHeartbeats 4000000 in
theorem c_numberToken {X : jX} {dd : Nat} {c0 c1 : jC} {G : Nat → Int} {A : Nat → Nat → Int} {T : jH} {ln le at0 tx : Int} (hd : 2 ≤ dd) (hW : Wk G A) (e_ln : G 9 = ln) (e_le : A 4 (ln).toNat = le) (e_at0 : G 10 = at0) (e_tx : A 0 (at0).toNat = tx) (p_0 : at0 < le) (p_1 : 48 ≤ tx ∧ tx ≤ 57) : wk X dd 264 [.ref 66] (rV c0 c1 G A T) (fun o V' => ∃ (G' : Nat → Int) (A' : Nat → Nat → Int) (at2 : Int) (tk2 : Int), V' = rV c0 c1 G' A' T ∧ o = .inl none ∧ Wk G' A' ∧ Fr [10, 11, 13] [] G A G' A' ∧ G' 10 = at2 ∧ G' 11 = tk2 ∧ (at0 < at2) ∧ (at2 ≤ le) ∧ (1 ≤ tk2) ∧ True) := by
  obtain ⟨d, rfl⟩ : ∃ d, dd = d + 1 := ⟨dd - 1, by omega⟩
  refine wk_of (e := jm264) rfl (Nat.le_of_ble_eq_true rfl) ?_
  show wj X d jm264 (0, [(0, .ref 66)], [], rV c0 c1 G A T) _
  have hF0 : Fr [10, 11, 13] [] G A G A := Fr_rf
  have b_ln : (0 : Int) ≤ ln ∧ ln ≤ 3000 := e_ln ▸ hW.1 9
  have b_le : (0 : Int) ≤ le ∧ le ≤ 3000 := e_le ▸ hW.2 4 _
  have b_at0 : (0 : Int) ≤ at0 ∧ at0 ≤ 3002 := e_at0 ▸ hW.1 10
  have b_tx : (0 : Int) ≤ tx ∧ tx ≤ 126 := e_tx ▸ hW.2 0 _
  refine jx_ar (pc' := 1) (st' := [.int (i32 (0))]) rfl rfl rfl rfl ?_
  refine jx_ld (pc' := 2) (l' := jSto1 [(0, .ref 66)] 1 (.int (i32 (0)))) (st' := []) rfl rfl ?_
  obtain ⟨L1, eL1⟩ : ∃ q, q = jSto1 [(0, .ref 66)] 1 (.int (i32 (0))) := ⟨_, rfl⟩
  rw [← eL1]
  have gL1_0 : jGet L1 0 = some (.ref 66) := eL1 ▸ jg_ne (by decide) (rfl : jGet [(0, .ref 66)] 0 = some (.ref 66)) rfl
  have gL1_1 : jGet L1 1 = some (.int (i32 (0))) := eL1 ▸ jg_eq
  refine jx_ar (pc' := 3) (st' := [.long (Int64.ofNat 0)]) rfl rfl rfl rfl ?_
  refine jx_ld (pc' := 4) (l' := jSto2 L1 2 (.long (Int64.ofNat 0))) (st' := []) rfl rfl ?_
  obtain ⟨L2, eL2⟩ : ∃ q, q = jSto2 L1 2 (.long (Int64.ofNat 0)) := ⟨_, rfl⟩
  rw [← eL2]
  have gL2_0 : jGet L2 0 = some (.ref 66) := eL2 ▸ jg_ne2 (by decide) (by decide) gL1_0 (.inl rfl)
  have gL2_1 : jGet L2 1 = some (.int (i32 (0))) := eL2 ▸ jg_ne2 (by decide) (by decide) gL1_1 (.inl rfl)
  have gL2_2 : jGet L2 2 = some (.long (Int64.ofNat 0)) := eL2 ▸ jg_eq2
  have loop3 : ∀ (m : Nat) (L : jL) (Gx : Nat → Int) (Ax : Nat → Nat → Int) (n at1 cur : Int) (v : Int64), (le - at1).toNat = m → jGet L 0 = some (.ref 66) → jGet L 1 = some (.int (i32 n)) → jGet L 2 = some (.long v) → Wk Gx Ax → Fr [10, 11, 13] [] G A Gx Ax → Gx 10 = at1 → Ax 0 (at1).toNat = cur → ((-2147483648 : Int) ≤ n ∧ n ≤ 2147483647) → (at0 ≤ at1 ∧ at1 ≤ le) → (at1 = at0 → cur = tx) → (n = at1 - at0) → wj X d jm264 (4, L, [], rV c0 c1 Gx Ax T) (fun o V' => ∃ (G' : Nat → Int) (A' : Nat → Nat → Int) (at2 : Int) (tk2 : Int), V' = rV c0 c1 G' A' T ∧ o = .inl none ∧ Wk G' A' ∧ Fr [10, 11, 13] [] G A G' A' ∧ G' 10 = at2 ∧ G' 11 = tk2 ∧ (at0 < at2) ∧ (at2 ≤ le) ∧ (1 ≤ tk2) ∧ True) := by
    intro m
    induction m using Nat.strongRecOn with
    | ind m ih =>
      intro L Gx Ax n at1 cur v hm gL_0 gL_1 gL_2 hWx hFx ex_at1 ex_cur rx_n iv_0 iv_1 iv_2
      have b_at1 : (0 : Int) ≤ at1 ∧ at1 ≤ 3002 := ex_at1 ▸ hWx.1 10
      refine jx_ld (pc' := 5) (l' := L) (st' := [.ref 66]) rfl (jl_aloadn gL_0) ?_
      refine jx_ld (pc' := 6) (l' := L) (st' := [.ref 66, .ref 66]) rfl (jl_aloadn gL_0) ?_
      refine jr_get (pc' := 9) (i := 10) (v := .int (i32 (at1))) rfl rfl (by decide) (rFv_eq (by decide) (show Gx 10 = at1 from (ex_at1))) rfl ?_
      refine jx_vr (pc' := 12) (as := [.int (i32 (at1))]) (st := []) rfl rfl rfl rfl ⟨rfl, rfl, Nat.le_of_ble_eq_true rfl⟩ rfl rfl (c_sign (dd := d) (hd := by omega) (hW := hWx) (k := at1) (ln := ln) (e_ln := show Gx 9 = ln from ((hFx.1 9 rfl).trans (e_ln))) (le := le) (e_le := show Ax 4 (ln).toNat = le from (congrFun (hFx.2 4 rfl) _).trans (e_le)) (tx := cur) (e_tx := show Ax 0 (at1).toNat = cur from (ex_cur))  (h_k := by omega)  (p_0 := by omega)) (fun o V' hq => ?_)
      obtain ⟨r4, rfl, rfl, b5, q6⟩ := hq
      refine .inr ⟨_, rfl, ?_⟩
      rcases q6 with ⟨a7, a8⟩ | ⟨a9, a10⟩
      · have _q : True := trivial
        refine jx_st (pc' := 15) (as := [.int (i32 (r4))]) (st := []) rfl rfl ⟨rfl, Nat.le_of_ble_eq_true rfl⟩ rfl rfl rfl (c_isDigit (dd := d) (hd := by omega) (v := r4)   (h_v := by omega)  ) (fun o V' hq => ?_)
        obtain ⟨r11, rfl, rfl, b12, q13⟩ := hq
        refine .inr ⟨_, rfl, ?_⟩
        rcases q13 with ⟨rfl, a14, a15⟩ | ⟨rfl, a16⟩
        · have _q : True := trivial
          refine jx_if_eq (pc' := 18) (tg := 64) rfl rfl rfl (by omega) (by omega) (fun h17 => ?_) (fun h17 => ?_)
          · have _q := h17
            exact absurd h17 (by omega)
          · have _q := h17
            refine jx_ld (pc' := 19) (l' := L) (st' := [.int (i32 (n))]) rfl (jl_iloadn gL_1) ?_
            refine jx_ar (pc' := 21) (st' := [.int (i32 (10)), .int (i32 (n))]) rfl rfl rfl rfl ?_
            refine jx_icmp_ge (pc' := 24) (tg := 46) rfl rfl rfl (by omega) (by omega) (by omega) (by omega) (fun h18 => ?_) (fun h18 => ?_)
            · have _q := h18
              refine jx_ld (pc' := 47) (l' := L) (st' := [.long (v)]) rfl (jl_lloadn gL_2) ?_
              refine jx_ld (pc' := 48) (l' := jSto2 L 2 (.long (v))) (st' := []) rfl rfl ?_
              obtain ⟨L19, eL19⟩ : ∃ q, q = jSto2 L 2 (.long (v)) := ⟨_, rfl⟩
              rw [← eL19]
              have gL19_0 : jGet L19 0 = some (.ref 66) := eL19 ▸ jg_ne2 (by decide) (by decide) gL_0 (.inl rfl)
              have gL19_1 : jGet L19 1 = some (.int (i32 (n))) := eL19 ▸ jg_ne2 (by decide) (by decide) gL_1 (.inl rfl)
              have gL19_2 : jGet L19 2 = some (.long (v)) := eL19 ▸ jg_eq2
              refine jx_inc (pc' := 51) (l' := jSto1 L19 1 (.int (i32 ((n + (1)))))) (x := n) rfl gL19_1 (by decide) rfl rfl ?_
              obtain ⟨L20, eL20⟩ : ∃ q, q = jSto1 L19 1 (.int (i32 ((n + (1))))) := ⟨_, rfl⟩
              rw [← eL20]
              have gL20_0 : jGet L20 0 = some (.ref 66) := eL20 ▸ jg_ne (by decide) gL19_0 rfl
              have gL20_2 : jGet L20 2 = some (.long (v)) := eL20 ▸ jg_nel (by decide) gL19_2 (by decide)
              have gL20_1 : jGet L20 1 = some (.int (i32 ((n + (1))))) := eL20 ▸ jg_eq
              refine jx_ld (pc' := 52) (l' := L20) (st' := [.ref 66]) rfl (jl_aloadn gL20_0) ?_
              refine jx_ar (pc' := 53) (st' := [.ref 66, .ref 66]) rfl rfl rfl rfl ?_
              refine jr_get (pc' := 56) (i := 10) (v := .int (i32 (at1))) rfl rfl (by decide) (rFv_eq (by decide) (show Gx 10 = at1 from (ex_at1))) rfl ?_
              refine jx_ar (pc' := 57) (st' := [.int (i32 (1)), .int (i32 (at1)), .ref 66]) rfl rfl rfl rfl ?_
              refine jx_add (pc' := 58) rfl rfl ?_
              refine jr_put (pc' := 61) (i := 10) (z := (at1 + 1)) rfl rfl (by decide) rfl rfl rfl rfl rfl rfl ?_
              have hW21 : Wk (uG Gx 10 ((at1 + 1))) Ax := Wk_g hWx (show (0 : Int) ≤ (at1 + 1) by omega) (show (at1 + 1) ≤ (3002 : Int) by omega)
              have hF22 := Fr_g (z := (at1 + 1)) (i := 10) hFx (by decide)
              refine jx_go (tg := 4) rfl rfl ?_
              exact ih _ (by omega) L20 (uG Gx 10 ((at1 + 1))) Ax ((n + (1))) ((at1 + 1)) (A 0 ((at1 + 1)).toNat) (v) rfl gL20_0 gL20_1 gL20_2 hW21 hF22 (rfl) ((congrFun (hFx.2 0 rfl) _)) (by omega) (by omega) (by omega) (by omega)
            · have _q := h18
              refine jx_hp (pc' := 27) (st' := [.long (10)]) rfl rfl rfl rfl rfl rfl ?_
              refine jx_ld (pc' := 28) (l' := L) (st' := [.long (v), .long (10)]) rfl (jl_lloadn gL_2) ?_
              refine jx_ar (pc' := 29) (st' := .long ((10 : Int64) * (v)) :: []) rfl rfl rfl rfl ?_
              obtain ⟨y23, ey23⟩ : ∃ q : Int64, q = (10 : Int64) * (v) := ⟨_, rfl⟩
              rw [← ey23]
              refine jx_ld (pc' := 30) (l' := L) (st' := [.ref 66, .long (y23)]) rfl (jl_aloadn gL_0) ?_
              refine jx_ld (pc' := 31) (l' := L) (st' := [.ref 66, .ref 66, .long (y23)]) rfl (jl_aloadn gL_0) ?_
              refine jr_get (pc' := 34) (i := 10) (v := .int (i32 (at1))) rfl rfl (by decide) (rFv_eq (by decide) (show Gx 10 = at1 from (ex_at1))) rfl ?_
              refine jx_vr (pc' := 37) (as := [.int (i32 (at1))]) (st := [.long (y23)]) rfl rfl rfl rfl ⟨rfl, rfl, Nat.le_of_ble_eq_true rfl⟩ rfl rfl (c_sign (dd := d) (hd := by omega) (hW := hWx) (k := at1) (ln := ln) (e_ln := show Gx 9 = ln from ((hFx.1 9 rfl).trans (e_ln))) (le := le) (e_le := show Ax 4 (ln).toNat = le from (congrFun (hFx.2 4 rfl) _).trans (e_le)) (tx := cur) (e_tx := show Ax 0 (at1).toNat = cur from (ex_cur))  (h_k := by omega)  (p_0 := by omega)) (fun o V' hq => ?_)
              obtain ⟨r24, rfl, rfl, b25, q26⟩ := hq
              refine .inr ⟨_, rfl, ?_⟩
              rcases q26 with ⟨a27, a28⟩ | ⟨a29, a30⟩
              · have _q : True := trivial
                refine jx_ar (pc' := 38) (st' := .long ((i32 (r24)).toInt64) :: [.long (y23)]) rfl rfl rfl rfl ?_
                obtain ⟨y31, ey31⟩ : ∃ q : Int64, q = (i32 (r24)).toInt64 := ⟨_, rfl⟩
                rw [← ey31]
                refine jx_ar (pc' := 39) (st' := .long ((y23 : Int64) + (y31)) :: []) rfl rfl rfl rfl ?_
                obtain ⟨y32, ey32⟩ : ∃ q : Int64, q = (y23 : Int64) + (y31) := ⟨_, rfl⟩
                rw [← ey32]
                refine jx_hp (pc' := 42) (st' := [.long (48), .long (y32)]) rfl rfl rfl rfl rfl rfl ?_
                refine jx_ar (pc' := 43) (st' := .long ((y32 : Int64) - (48)) :: []) rfl rfl rfl rfl ?_
                obtain ⟨y33, ey33⟩ : ∃ q : Int64, q = (y32 : Int64) - (48) := ⟨_, rfl⟩
                rw [← ey33]
                refine jx_go (tg := 47) rfl rfl ?_
                refine jx_ld (pc' := 48) (l' := jSto2 L 2 (.long (y33))) (st' := []) rfl rfl ?_
                obtain ⟨L34, eL34⟩ : ∃ q, q = jSto2 L 2 (.long (y33)) := ⟨_, rfl⟩
                rw [← eL34]
                have gL34_0 : jGet L34 0 = some (.ref 66) := eL34 ▸ jg_ne2 (by decide) (by decide) gL_0 (.inl rfl)
                have gL34_1 : jGet L34 1 = some (.int (i32 (n))) := eL34 ▸ jg_ne2 (by decide) (by decide) gL_1 (.inl rfl)
                have gL34_2 : jGet L34 2 = some (.long (y33)) := eL34 ▸ jg_eq2
                refine jx_inc (pc' := 51) (l' := jSto1 L34 1 (.int (i32 ((n + (1)))))) (x := n) rfl gL34_1 (by decide) rfl rfl ?_
                obtain ⟨L35, eL35⟩ : ∃ q, q = jSto1 L34 1 (.int (i32 ((n + (1))))) := ⟨_, rfl⟩
                rw [← eL35]
                have gL35_0 : jGet L35 0 = some (.ref 66) := eL35 ▸ jg_ne (by decide) gL34_0 rfl
                have gL35_2 : jGet L35 2 = some (.long (y33)) := eL35 ▸ jg_nel (by decide) gL34_2 (by decide)
                have gL35_1 : jGet L35 1 = some (.int (i32 ((n + (1))))) := eL35 ▸ jg_eq
                refine jx_ld (pc' := 52) (l' := L35) (st' := [.ref 66]) rfl (jl_aloadn gL35_0) ?_
                refine jx_ar (pc' := 53) (st' := [.ref 66, .ref 66]) rfl rfl rfl rfl ?_
                refine jr_get (pc' := 56) (i := 10) (v := .int (i32 (at1))) rfl rfl (by decide) (rFv_eq (by decide) (show Gx 10 = at1 from (ex_at1))) rfl ?_
                refine jx_ar (pc' := 57) (st' := [.int (i32 (1)), .int (i32 (at1)), .ref 66]) rfl rfl rfl rfl ?_
                refine jx_add (pc' := 58) rfl rfl ?_
                refine jr_put (pc' := 61) (i := 10) (z := (at1 + 1)) rfl rfl (by decide) rfl rfl rfl rfl rfl rfl ?_
                have hW36 : Wk (uG Gx 10 ((at1 + 1))) Ax := Wk_g hWx (show (0 : Int) ≤ (at1 + 1) by omega) (show (at1 + 1) ≤ (3002 : Int) by omega)
                have hF37 := Fr_g (z := (at1 + 1)) (i := 10) hFx (by decide)
                refine jx_go (tg := 4) rfl rfl ?_
                exact ih _ (by omega) L35 (uG Gx 10 ((at1 + 1))) Ax ((n + (1))) ((at1 + 1)) (A 0 ((at1 + 1)).toNat) (y33) rfl gL35_0 gL35_1 gL35_2 hW36 hF37 (rfl) ((congrFun (hFx.2 0 rfl) _)) (by omega) (by omega) (by omega) (by omega)
              · have _q : True := trivial
                refine jx_ar (pc' := 38) (st' := .long ((i32 (r24)).toInt64) :: [.long (y23)]) rfl rfl rfl rfl ?_
                obtain ⟨y38, ey38⟩ : ∃ q : Int64, q = (i32 (r24)).toInt64 := ⟨_, rfl⟩
                rw [← ey38]
                refine jx_ar (pc' := 39) (st' := .long ((y23 : Int64) + (y38)) :: []) rfl rfl rfl rfl ?_
                obtain ⟨y39, ey39⟩ : ∃ q : Int64, q = (y23 : Int64) + (y38) := ⟨_, rfl⟩
                rw [← ey39]
                refine jx_hp (pc' := 42) (st' := [.long (48), .long (y39)]) rfl rfl rfl rfl rfl rfl ?_
                refine jx_ar (pc' := 43) (st' := .long ((y39 : Int64) - (48)) :: []) rfl rfl rfl rfl ?_
                obtain ⟨y40, ey40⟩ : ∃ q : Int64, q = (y39 : Int64) - (48) := ⟨_, rfl⟩
                rw [← ey40]
                refine jx_go (tg := 47) rfl rfl ?_
                refine jx_ld (pc' := 48) (l' := jSto2 L 2 (.long (y40))) (st' := []) rfl rfl ?_
                obtain ⟨L41, eL41⟩ : ∃ q, q = jSto2 L 2 (.long (y40)) := ⟨_, rfl⟩
                rw [← eL41]
                have gL41_0 : jGet L41 0 = some (.ref 66) := eL41 ▸ jg_ne2 (by decide) (by decide) gL_0 (.inl rfl)
                have gL41_1 : jGet L41 1 = some (.int (i32 (n))) := eL41 ▸ jg_ne2 (by decide) (by decide) gL_1 (.inl rfl)
                have gL41_2 : jGet L41 2 = some (.long (y40)) := eL41 ▸ jg_eq2
                refine jx_inc (pc' := 51) (l' := jSto1 L41 1 (.int (i32 ((n + (1)))))) (x := n) rfl gL41_1 (by decide) rfl rfl ?_
                obtain ⟨L42, eL42⟩ : ∃ q, q = jSto1 L41 1 (.int (i32 ((n + (1))))) := ⟨_, rfl⟩
                rw [← eL42]
                have gL42_0 : jGet L42 0 = some (.ref 66) := eL42 ▸ jg_ne (by decide) gL41_0 rfl
                have gL42_2 : jGet L42 2 = some (.long (y40)) := eL42 ▸ jg_nel (by decide) gL41_2 (by decide)
                have gL42_1 : jGet L42 1 = some (.int (i32 ((n + (1))))) := eL42 ▸ jg_eq
                refine jx_ld (pc' := 52) (l' := L42) (st' := [.ref 66]) rfl (jl_aloadn gL42_0) ?_
                refine jx_ar (pc' := 53) (st' := [.ref 66, .ref 66]) rfl rfl rfl rfl ?_
                refine jr_get (pc' := 56) (i := 10) (v := .int (i32 (at1))) rfl rfl (by decide) (rFv_eq (by decide) (show Gx 10 = at1 from (ex_at1))) rfl ?_
                refine jx_ar (pc' := 57) (st' := [.int (i32 (1)), .int (i32 (at1)), .ref 66]) rfl rfl rfl rfl ?_
                refine jx_add (pc' := 58) rfl rfl ?_
                refine jr_put (pc' := 61) (i := 10) (z := (at1 + 1)) rfl rfl (by decide) rfl rfl rfl rfl rfl rfl ?_
                have hW43 : Wk (uG Gx 10 ((at1 + 1))) Ax := Wk_g hWx (show (0 : Int) ≤ (at1 + 1) by omega) (show (at1 + 1) ≤ (3002 : Int) by omega)
                have hF44 := Fr_g (z := (at1 + 1)) (i := 10) hFx (by decide)
                refine jx_go (tg := 4) rfl rfl ?_
                exact ih _ (by omega) L42 (uG Gx 10 ((at1 + 1))) Ax ((n + (1))) ((at1 + 1)) (A 0 ((at1 + 1)).toNat) (y40) rfl gL42_0 gL42_1 gL42_2 hW43 hF44 (rfl) ((congrFun (hFx.2 0 rfl) _)) (by omega) (by omega) (by omega) (by omega)
        · have _q : True := trivial
          refine jx_if_eq (pc' := 18) (tg := 64) rfl rfl rfl (by omega) (by omega) (fun h45 => ?_) (fun h45 => ?_)
          · have _q := h45
            refine jx_ld (pc' := 65) (l' := L) (st' := [.int (i32 (n))]) rfl (jl_iloadn gL_1) ?_
            refine jx_ar (pc' := 67) (st' := [.int (i32 (10)), .int (i32 (n))]) rfl rfl rfl rfl ?_
            refine jx_icmp_gt (pc' := 70) (tg := 82) rfl rfl rfl (by omega) (by omega) (by omega) (by omega) (fun h46 => ?_) (fun h46 => ?_)
            · have _q := h46
              refine jx_ar (pc' := 83) (st' := [.int (i32 (0))]) rfl rfl rfl rfl ?_
              refine jx_ld (pc' := 85) (l' := jSto1 L 4 (.int (i32 (0)))) (st' := []) rfl rfl ?_
              obtain ⟨L47, eL47⟩ : ∃ q, q = jSto1 L 4 (.int (i32 (0))) := ⟨_, rfl⟩
              rw [← eL47]
              have gL47_0 : jGet L47 0 = some (.ref 66) := eL47 ▸ jg_ne (by decide) gL_0 rfl
              have gL47_1 : jGet L47 1 = some (.int (i32 (n))) := eL47 ▸ jg_ne (by decide) gL_1 rfl
              have gL47_2 : jGet L47 2 = some (.long (v)) := eL47 ▸ jg_nel (by decide) gL_2 (by decide)
              have gL47_4 : jGet L47 4 = some (.int (i32 (0))) := eL47 ▸ jg_eq
              refine jx_ld (pc' := 86) (l' := L47) (st' := [.ref 66]) rfl (jl_aloadn gL47_0) ?_
              refine jx_ld (pc' := 88) (l' := L47) (st' := [.int (i32 (0)), .ref 66]) rfl (jl_iload gL47_4) ?_
              refine jx_if_eq (pc' := 91) (tg := 95) rfl rfl rfl (by omega) (by omega) (fun h48 => ?_) (fun h48 => ?_)
              · have _q := h48
                refine jx_ar (pc' := 96) (st' := [.int (i32 (5)), .ref 66]) rfl rfl rfl rfl ?_
                refine jr_put (pc' := 99) (i := 11) (z := 5) rfl rfl (by decide) rfl rfl rfl rfl rfl rfl ?_
                have hW49 : Wk (uG Gx 11 (5)) Ax := Wk_g hWx (show (0 : Int) ≤ 5 by omega) (show 5 ≤ (5 : Int) by omega)
                have hF50 := Fr_g (z := 5) (i := 11) hFx (by decide)
                refine jx_ld (pc' := 100) (l' := L47) (st' := [.ref 66]) rfl (jl_aloadn gL47_0) ?_
                refine jx_ld (pc' := 102) (l' := L47) (st' := [.int (i32 (0)), .ref 66]) rfl (jl_iload gL47_4) ?_
                refine jx_if_eq (pc' := 105) (tg := 110) rfl rfl rfl (by omega) (by omega) (fun h51 => ?_) (fun h51 => ?_)
                · have _q := h51
                  refine jx_ar (pc' := 111) (st' := [.int (i32 (0)), .ref 66]) rfl rfl rfl rfl ?_
                  refine jr_put (pc' := 114) (i := 13) (z := 0) rfl rfl (by decide) rfl rfl rfl rfl rfl rfl ?_
                  have hW52 : Wk (uG (uG Gx 11 (5)) 13 (0)) Ax := Wk_g hW49 (show (-2147483648 : Int) ≤ 0 by omega) (show 0 ≤ (2147483647 : Int) by omega)
                  have hF53 := Fr_g (z := 0) (i := 13) hF50 (by decide)
                  refine jx_rt (v := none) rfl rfl rfl rfl rfl rfl ?_
                  exact ⟨_, _, at1, 5, rfl, rfl, hW52, hF53, (ex_at1), rfl, by omega, by omega, by omega, trivial⟩
                · have _q := h51
                  exact absurd h51 (by omega)
              · have _q := h48
                exact absurd h48 (by omega)
            · have _q := h46
              refine jx_ld (pc' := 71) (l' := L) (st' := [.long (v)]) rfl (jl_lloadn gL_2) ?_
              refine jx_hp (pc' := 74) (st' := [.long (2147483647), .long (v)]) rfl rfl rfl rfl rfl rfl ?_
              refine jx_lcmp (pc' := 75) rfl rfl (fun r54 hr54 => ?_)
              refine jx_if_gt (pc' := 78) (tg := 82) rfl rfl rfl (by omega) (by omega) (fun h55 => ?_) (fun h55 => ?_)
              · have _q := h55
                refine jx_ar (pc' := 83) (st' := [.int (i32 (0))]) rfl rfl rfl rfl ?_
                refine jx_ld (pc' := 85) (l' := jSto1 L 4 (.int (i32 (0)))) (st' := []) rfl rfl ?_
                obtain ⟨L56, eL56⟩ : ∃ q, q = jSto1 L 4 (.int (i32 (0))) := ⟨_, rfl⟩
                rw [← eL56]
                have gL56_0 : jGet L56 0 = some (.ref 66) := eL56 ▸ jg_ne (by decide) gL_0 rfl
                have gL56_1 : jGet L56 1 = some (.int (i32 (n))) := eL56 ▸ jg_ne (by decide) gL_1 rfl
                have gL56_2 : jGet L56 2 = some (.long (v)) := eL56 ▸ jg_nel (by decide) gL_2 (by decide)
                have gL56_4 : jGet L56 4 = some (.int (i32 (0))) := eL56 ▸ jg_eq
                refine jx_ld (pc' := 86) (l' := L56) (st' := [.ref 66]) rfl (jl_aloadn gL56_0) ?_
                refine jx_ld (pc' := 88) (l' := L56) (st' := [.int (i32 (0)), .ref 66]) rfl (jl_iload gL56_4) ?_
                refine jx_if_eq (pc' := 91) (tg := 95) rfl rfl rfl (by omega) (by omega) (fun h57 => ?_) (fun h57 => ?_)
                · have _q := h57
                  refine jx_ar (pc' := 96) (st' := [.int (i32 (5)), .ref 66]) rfl rfl rfl rfl ?_
                  refine jr_put (pc' := 99) (i := 11) (z := 5) rfl rfl (by decide) rfl rfl rfl rfl rfl rfl ?_
                  have hW58 : Wk (uG Gx 11 (5)) Ax := Wk_g hWx (show (0 : Int) ≤ 5 by omega) (show 5 ≤ (5 : Int) by omega)
                  have hF59 := Fr_g (z := 5) (i := 11) hFx (by decide)
                  refine jx_ld (pc' := 100) (l' := L56) (st' := [.ref 66]) rfl (jl_aloadn gL56_0) ?_
                  refine jx_ld (pc' := 102) (l' := L56) (st' := [.int (i32 (0)), .ref 66]) rfl (jl_iload gL56_4) ?_
                  refine jx_if_eq (pc' := 105) (tg := 110) rfl rfl rfl (by omega) (by omega) (fun h60 => ?_) (fun h60 => ?_)
                  · have _q := h60
                    refine jx_ar (pc' := 111) (st' := [.int (i32 (0)), .ref 66]) rfl rfl rfl rfl ?_
                    refine jr_put (pc' := 114) (i := 13) (z := 0) rfl rfl (by decide) rfl rfl rfl rfl rfl rfl ?_
                    have hW61 : Wk (uG (uG Gx 11 (5)) 13 (0)) Ax := Wk_g hW58 (show (-2147483648 : Int) ≤ 0 by omega) (show 0 ≤ (2147483647 : Int) by omega)
                    have hF62 := Fr_g (z := 0) (i := 13) hF59 (by decide)
                    refine jx_rt (v := none) rfl rfl rfl rfl rfl rfl ?_
                    exact ⟨_, _, at1, 5, rfl, rfl, hW61, hF62, (ex_at1), rfl, by omega, by omega, by omega, trivial⟩
                  · have _q := h60
                    exact absurd h60 (by omega)
                · have _q := h57
                  exact absurd h57 (by omega)
              · have _q := h55
                refine jx_ar (pc' := 79) (st' := [.int (i32 (1))]) rfl rfl rfl rfl ?_
                refine jx_go (tg := 83) rfl rfl ?_
                refine jx_ld (pc' := 85) (l' := jSto1 L 4 (.int (i32 (1)))) (st' := []) rfl rfl ?_
                obtain ⟨L63, eL63⟩ : ∃ q, q = jSto1 L 4 (.int (i32 (1))) := ⟨_, rfl⟩
                rw [← eL63]
                have gL63_0 : jGet L63 0 = some (.ref 66) := eL63 ▸ jg_ne (by decide) gL_0 rfl
                have gL63_1 : jGet L63 1 = some (.int (i32 (n))) := eL63 ▸ jg_ne (by decide) gL_1 rfl
                have gL63_2 : jGet L63 2 = some (.long (v)) := eL63 ▸ jg_nel (by decide) gL_2 (by decide)
                have gL63_4 : jGet L63 4 = some (.int (i32 (1))) := eL63 ▸ jg_eq
                refine jx_ld (pc' := 86) (l' := L63) (st' := [.ref 66]) rfl (jl_aloadn gL63_0) ?_
                refine jx_ld (pc' := 88) (l' := L63) (st' := [.int (i32 (1)), .ref 66]) rfl (jl_iload gL63_4) ?_
                refine jx_if_eq (pc' := 91) (tg := 95) rfl rfl rfl (by omega) (by omega) (fun h64 => ?_) (fun h64 => ?_)
                · have _q := h64
                  exact absurd h64 (by omega)
                · have _q := h64
                  refine jx_ar (pc' := 92) (st' := [.int (i32 (3)), .ref 66]) rfl rfl rfl rfl ?_
                  refine jx_go (tg := 96) rfl rfl ?_
                  refine jr_put (pc' := 99) (i := 11) (z := 3) rfl rfl (by decide) rfl rfl rfl rfl rfl rfl ?_
                  have hW65 : Wk (uG Gx 11 (3)) Ax := Wk_g hWx (show (0 : Int) ≤ 3 by omega) (show 3 ≤ (5 : Int) by omega)
                  have hF66 := Fr_g (z := 3) (i := 11) hFx (by decide)
                  refine jx_ld (pc' := 100) (l' := L63) (st' := [.ref 66]) rfl (jl_aloadn gL63_0) ?_
                  refine jx_ld (pc' := 102) (l' := L63) (st' := [.int (i32 (1)), .ref 66]) rfl (jl_iload gL63_4) ?_
                  refine jx_if_eq (pc' := 105) (tg := 110) rfl rfl rfl (by omega) (by omega) (fun h67 => ?_) (fun h67 => ?_)
                  · have _q := h67
                    exact absurd h67 (by omega)
                  · have _q := h67
                    refine jx_ld (pc' := 106) (l' := L63) (st' := [.long (v), .ref 66]) rfl (jl_lloadn gL63_2) ?_
                    refine jx_l2i (pc' := 107) rfl rfl (fun r68 hr68 => ?_)
                    refine jx_go (tg := 111) rfl rfl ?_
                    refine jr_put (pc' := 114) (i := 13) (z := r68) rfl rfl (by decide) rfl rfl rfl rfl rfl rfl ?_
                    have hW69 : Wk (uG (uG Gx 11 (3)) 13 (r68)) Ax := Wk_g hW65 (show (-2147483648 : Int) ≤ r68 by omega) (show r68 ≤ (2147483647 : Int) by omega)
                    have hF70 := Fr_g (z := r68) (i := 13) hF66 (by decide)
                    refine jx_rt (v := none) rfl rfl rfl rfl rfl rfl ?_
                    exact ⟨_, _, at1, 3, rfl, rfl, hW69, hF70, (ex_at1), rfl, by omega, by omega, by omega, trivial⟩
          · have _q := h45
            exact absurd h45 (by omega)
      · have _q : True := trivial
        refine jx_st (pc' := 15) (as := [.int (i32 (r4))]) (st := []) rfl rfl ⟨rfl, Nat.le_of_ble_eq_true rfl⟩ rfl rfl rfl (c_isDigit (dd := d) (hd := by omega) (v := r4)   (h_v := by omega)  ) (fun o V' hq => ?_)
        obtain ⟨r71, rfl, rfl, b72, q73⟩ := hq
        refine .inr ⟨_, rfl, ?_⟩
        rcases q73 with ⟨rfl, a74, a75⟩ | ⟨rfl, a76⟩
        · have _q : True := trivial
          refine jx_if_eq (pc' := 18) (tg := 64) rfl rfl rfl (by omega) (by omega) (fun h77 => ?_) (fun h77 => ?_)
          · have _q := h77
            exact absurd h77 (by omega)
          · have _q := h77
            refine jx_ld (pc' := 19) (l' := L) (st' := [.int (i32 (n))]) rfl (jl_iloadn gL_1) ?_
            refine jx_ar (pc' := 21) (st' := [.int (i32 (10)), .int (i32 (n))]) rfl rfl rfl rfl ?_
            refine jx_icmp_ge (pc' := 24) (tg := 46) rfl rfl rfl (by omega) (by omega) (by omega) (by omega) (fun h78 => ?_) (fun h78 => ?_)
            · have _q := h78
              refine jx_ld (pc' := 47) (l' := L) (st' := [.long (v)]) rfl (jl_lloadn gL_2) ?_
              refine jx_ld (pc' := 48) (l' := jSto2 L 2 (.long (v))) (st' := []) rfl rfl ?_
              obtain ⟨L79, eL79⟩ : ∃ q, q = jSto2 L 2 (.long (v)) := ⟨_, rfl⟩
              rw [← eL79]
              have gL79_0 : jGet L79 0 = some (.ref 66) := eL79 ▸ jg_ne2 (by decide) (by decide) gL_0 (.inl rfl)
              have gL79_1 : jGet L79 1 = some (.int (i32 (n))) := eL79 ▸ jg_ne2 (by decide) (by decide) gL_1 (.inl rfl)
              have gL79_2 : jGet L79 2 = some (.long (v)) := eL79 ▸ jg_eq2
              refine jx_inc (pc' := 51) (l' := jSto1 L79 1 (.int (i32 ((n + (1)))))) (x := n) rfl gL79_1 (by decide) rfl rfl ?_
              obtain ⟨L80, eL80⟩ : ∃ q, q = jSto1 L79 1 (.int (i32 ((n + (1))))) := ⟨_, rfl⟩
              rw [← eL80]
              have gL80_0 : jGet L80 0 = some (.ref 66) := eL80 ▸ jg_ne (by decide) gL79_0 rfl
              have gL80_2 : jGet L80 2 = some (.long (v)) := eL80 ▸ jg_nel (by decide) gL79_2 (by decide)
              have gL80_1 : jGet L80 1 = some (.int (i32 ((n + (1))))) := eL80 ▸ jg_eq
              refine jx_ld (pc' := 52) (l' := L80) (st' := [.ref 66]) rfl (jl_aloadn gL80_0) ?_
              refine jx_ar (pc' := 53) (st' := [.ref 66, .ref 66]) rfl rfl rfl rfl ?_
              refine jr_get (pc' := 56) (i := 10) (v := .int (i32 (at1))) rfl rfl (by decide) (rFv_eq (by decide) (show Gx 10 = at1 from (ex_at1))) rfl ?_
              refine jx_ar (pc' := 57) (st' := [.int (i32 (1)), .int (i32 (at1)), .ref 66]) rfl rfl rfl rfl ?_
              refine jx_add (pc' := 58) rfl rfl ?_
              refine jr_put (pc' := 61) (i := 10) (z := (at1 + 1)) rfl rfl (by decide) rfl rfl rfl rfl rfl rfl ?_
              have hW81 : Wk (uG Gx 10 ((at1 + 1))) Ax := Wk_g hWx (show (0 : Int) ≤ (at1 + 1) by omega) (show (at1 + 1) ≤ (3002 : Int) by omega)
              have hF82 := Fr_g (z := (at1 + 1)) (i := 10) hFx (by decide)
              refine jx_go (tg := 4) rfl rfl ?_
              exact ih _ (by omega) L80 (uG Gx 10 ((at1 + 1))) Ax ((n + (1))) ((at1 + 1)) (A 0 ((at1 + 1)).toNat) (v) rfl gL80_0 gL80_1 gL80_2 hW81 hF82 (rfl) ((congrFun (hFx.2 0 rfl) _)) (by omega) (by omega) (by omega) (by omega)
            · have _q := h78
              refine jx_hp (pc' := 27) (st' := [.long (10)]) rfl rfl rfl rfl rfl rfl ?_
              refine jx_ld (pc' := 28) (l' := L) (st' := [.long (v), .long (10)]) rfl (jl_lloadn gL_2) ?_
              refine jx_ar (pc' := 29) (st' := .long ((10 : Int64) * (v)) :: []) rfl rfl rfl rfl ?_
              obtain ⟨y83, ey83⟩ : ∃ q : Int64, q = (10 : Int64) * (v) := ⟨_, rfl⟩
              rw [← ey83]
              refine jx_ld (pc' := 30) (l' := L) (st' := [.ref 66, .long (y83)]) rfl (jl_aloadn gL_0) ?_
              refine jx_ld (pc' := 31) (l' := L) (st' := [.ref 66, .ref 66, .long (y83)]) rfl (jl_aloadn gL_0) ?_
              refine jr_get (pc' := 34) (i := 10) (v := .int (i32 (at1))) rfl rfl (by decide) (rFv_eq (by decide) (show Gx 10 = at1 from (ex_at1))) rfl ?_
              refine jx_vr (pc' := 37) (as := [.int (i32 (at1))]) (st := [.long (y83)]) rfl rfl rfl rfl ⟨rfl, rfl, Nat.le_of_ble_eq_true rfl⟩ rfl rfl (c_sign (dd := d) (hd := by omega) (hW := hWx) (k := at1) (ln := ln) (e_ln := show Gx 9 = ln from ((hFx.1 9 rfl).trans (e_ln))) (le := le) (e_le := show Ax 4 (ln).toNat = le from (congrFun (hFx.2 4 rfl) _).trans (e_le)) (tx := cur) (e_tx := show Ax 0 (at1).toNat = cur from (ex_cur))  (h_k := by omega)  (p_0 := by omega)) (fun o V' hq => ?_)
              obtain ⟨r84, rfl, rfl, b85, q86⟩ := hq
              refine .inr ⟨_, rfl, ?_⟩
              rcases q86 with ⟨a87, a88⟩ | ⟨a89, a90⟩
              · have _q : True := trivial
                refine jx_ar (pc' := 38) (st' := .long ((i32 (r84)).toInt64) :: [.long (y83)]) rfl rfl rfl rfl ?_
                obtain ⟨y91, ey91⟩ : ∃ q : Int64, q = (i32 (r84)).toInt64 := ⟨_, rfl⟩
                rw [← ey91]
                refine jx_ar (pc' := 39) (st' := .long ((y83 : Int64) + (y91)) :: []) rfl rfl rfl rfl ?_
                obtain ⟨y92, ey92⟩ : ∃ q : Int64, q = (y83 : Int64) + (y91) := ⟨_, rfl⟩
                rw [← ey92]
                refine jx_hp (pc' := 42) (st' := [.long (48), .long (y92)]) rfl rfl rfl rfl rfl rfl ?_
                refine jx_ar (pc' := 43) (st' := .long ((y92 : Int64) - (48)) :: []) rfl rfl rfl rfl ?_
                obtain ⟨y93, ey93⟩ : ∃ q : Int64, q = (y92 : Int64) - (48) := ⟨_, rfl⟩
                rw [← ey93]
                refine jx_go (tg := 47) rfl rfl ?_
                refine jx_ld (pc' := 48) (l' := jSto2 L 2 (.long (y93))) (st' := []) rfl rfl ?_
                obtain ⟨L94, eL94⟩ : ∃ q, q = jSto2 L 2 (.long (y93)) := ⟨_, rfl⟩
                rw [← eL94]
                have gL94_0 : jGet L94 0 = some (.ref 66) := eL94 ▸ jg_ne2 (by decide) (by decide) gL_0 (.inl rfl)
                have gL94_1 : jGet L94 1 = some (.int (i32 (n))) := eL94 ▸ jg_ne2 (by decide) (by decide) gL_1 (.inl rfl)
                have gL94_2 : jGet L94 2 = some (.long (y93)) := eL94 ▸ jg_eq2
                refine jx_inc (pc' := 51) (l' := jSto1 L94 1 (.int (i32 ((n + (1)))))) (x := n) rfl gL94_1 (by decide) rfl rfl ?_
                obtain ⟨L95, eL95⟩ : ∃ q, q = jSto1 L94 1 (.int (i32 ((n + (1))))) := ⟨_, rfl⟩
                rw [← eL95]
                have gL95_0 : jGet L95 0 = some (.ref 66) := eL95 ▸ jg_ne (by decide) gL94_0 rfl
                have gL95_2 : jGet L95 2 = some (.long (y93)) := eL95 ▸ jg_nel (by decide) gL94_2 (by decide)
                have gL95_1 : jGet L95 1 = some (.int (i32 ((n + (1))))) := eL95 ▸ jg_eq
                refine jx_ld (pc' := 52) (l' := L95) (st' := [.ref 66]) rfl (jl_aloadn gL95_0) ?_
                refine jx_ar (pc' := 53) (st' := [.ref 66, .ref 66]) rfl rfl rfl rfl ?_
                refine jr_get (pc' := 56) (i := 10) (v := .int (i32 (at1))) rfl rfl (by decide) (rFv_eq (by decide) (show Gx 10 = at1 from (ex_at1))) rfl ?_
                refine jx_ar (pc' := 57) (st' := [.int (i32 (1)), .int (i32 (at1)), .ref 66]) rfl rfl rfl rfl ?_
                refine jx_add (pc' := 58) rfl rfl ?_
                refine jr_put (pc' := 61) (i := 10) (z := (at1 + 1)) rfl rfl (by decide) rfl rfl rfl rfl rfl rfl ?_
                have hW96 : Wk (uG Gx 10 ((at1 + 1))) Ax := Wk_g hWx (show (0 : Int) ≤ (at1 + 1) by omega) (show (at1 + 1) ≤ (3002 : Int) by omega)
                have hF97 := Fr_g (z := (at1 + 1)) (i := 10) hFx (by decide)
                refine jx_go (tg := 4) rfl rfl ?_
                exact ih _ (by omega) L95 (uG Gx 10 ((at1 + 1))) Ax ((n + (1))) ((at1 + 1)) (A 0 ((at1 + 1)).toNat) (y93) rfl gL95_0 gL95_1 gL95_2 hW96 hF97 (rfl) ((congrFun (hFx.2 0 rfl) _)) (by omega) (by omega) (by omega) (by omega)
              · have _q : True := trivial
                refine jx_ar (pc' := 38) (st' := .long ((i32 (r84)).toInt64) :: [.long (y83)]) rfl rfl rfl rfl ?_
                obtain ⟨y98, ey98⟩ : ∃ q : Int64, q = (i32 (r84)).toInt64 := ⟨_, rfl⟩
                rw [← ey98]
                refine jx_ar (pc' := 39) (st' := .long ((y83 : Int64) + (y98)) :: []) rfl rfl rfl rfl ?_
                obtain ⟨y99, ey99⟩ : ∃ q : Int64, q = (y83 : Int64) + (y98) := ⟨_, rfl⟩
                rw [← ey99]
                refine jx_hp (pc' := 42) (st' := [.long (48), .long (y99)]) rfl rfl rfl rfl rfl rfl ?_
                refine jx_ar (pc' := 43) (st' := .long ((y99 : Int64) - (48)) :: []) rfl rfl rfl rfl ?_
                obtain ⟨y100, ey100⟩ : ∃ q : Int64, q = (y99 : Int64) - (48) := ⟨_, rfl⟩
                rw [← ey100]
                refine jx_go (tg := 47) rfl rfl ?_
                refine jx_ld (pc' := 48) (l' := jSto2 L 2 (.long (y100))) (st' := []) rfl rfl ?_
                obtain ⟨L101, eL101⟩ : ∃ q, q = jSto2 L 2 (.long (y100)) := ⟨_, rfl⟩
                rw [← eL101]
                have gL101_0 : jGet L101 0 = some (.ref 66) := eL101 ▸ jg_ne2 (by decide) (by decide) gL_0 (.inl rfl)
                have gL101_1 : jGet L101 1 = some (.int (i32 (n))) := eL101 ▸ jg_ne2 (by decide) (by decide) gL_1 (.inl rfl)
                have gL101_2 : jGet L101 2 = some (.long (y100)) := eL101 ▸ jg_eq2
                refine jx_inc (pc' := 51) (l' := jSto1 L101 1 (.int (i32 ((n + (1)))))) (x := n) rfl gL101_1 (by decide) rfl rfl ?_
                obtain ⟨L102, eL102⟩ : ∃ q, q = jSto1 L101 1 (.int (i32 ((n + (1))))) := ⟨_, rfl⟩
                rw [← eL102]
                have gL102_0 : jGet L102 0 = some (.ref 66) := eL102 ▸ jg_ne (by decide) gL101_0 rfl
                have gL102_2 : jGet L102 2 = some (.long (y100)) := eL102 ▸ jg_nel (by decide) gL101_2 (by decide)
                have gL102_1 : jGet L102 1 = some (.int (i32 ((n + (1))))) := eL102 ▸ jg_eq
                refine jx_ld (pc' := 52) (l' := L102) (st' := [.ref 66]) rfl (jl_aloadn gL102_0) ?_
                refine jx_ar (pc' := 53) (st' := [.ref 66, .ref 66]) rfl rfl rfl rfl ?_
                refine jr_get (pc' := 56) (i := 10) (v := .int (i32 (at1))) rfl rfl (by decide) (rFv_eq (by decide) (show Gx 10 = at1 from (ex_at1))) rfl ?_
                refine jx_ar (pc' := 57) (st' := [.int (i32 (1)), .int (i32 (at1)), .ref 66]) rfl rfl rfl rfl ?_
                refine jx_add (pc' := 58) rfl rfl ?_
                refine jr_put (pc' := 61) (i := 10) (z := (at1 + 1)) rfl rfl (by decide) rfl rfl rfl rfl rfl rfl ?_
                have hW103 : Wk (uG Gx 10 ((at1 + 1))) Ax := Wk_g hWx (show (0 : Int) ≤ (at1 + 1) by omega) (show (at1 + 1) ≤ (3002 : Int) by omega)
                have hF104 := Fr_g (z := (at1 + 1)) (i := 10) hFx (by decide)
                refine jx_go (tg := 4) rfl rfl ?_
                exact ih _ (by omega) L102 (uG Gx 10 ((at1 + 1))) Ax ((n + (1))) ((at1 + 1)) (A 0 ((at1 + 1)).toNat) (y100) rfl gL102_0 gL102_1 gL102_2 hW103 hF104 (rfl) ((congrFun (hFx.2 0 rfl) _)) (by omega) (by omega) (by omega) (by omega)
        · have _q : True := trivial
          refine jx_if_eq (pc' := 18) (tg := 64) rfl rfl rfl (by omega) (by omega) (fun h105 => ?_) (fun h105 => ?_)
          · have _q := h105
            refine jx_ld (pc' := 65) (l' := L) (st' := [.int (i32 (n))]) rfl (jl_iloadn gL_1) ?_
            refine jx_ar (pc' := 67) (st' := [.int (i32 (10)), .int (i32 (n))]) rfl rfl rfl rfl ?_
            refine jx_icmp_gt (pc' := 70) (tg := 82) rfl rfl rfl (by omega) (by omega) (by omega) (by omega) (fun h106 => ?_) (fun h106 => ?_)
            · have _q := h106
              refine jx_ar (pc' := 83) (st' := [.int (i32 (0))]) rfl rfl rfl rfl ?_
              refine jx_ld (pc' := 85) (l' := jSto1 L 4 (.int (i32 (0)))) (st' := []) rfl rfl ?_
              obtain ⟨L107, eL107⟩ : ∃ q, q = jSto1 L 4 (.int (i32 (0))) := ⟨_, rfl⟩
              rw [← eL107]
              have gL107_0 : jGet L107 0 = some (.ref 66) := eL107 ▸ jg_ne (by decide) gL_0 rfl
              have gL107_1 : jGet L107 1 = some (.int (i32 (n))) := eL107 ▸ jg_ne (by decide) gL_1 rfl
              have gL107_2 : jGet L107 2 = some (.long (v)) := eL107 ▸ jg_nel (by decide) gL_2 (by decide)
              have gL107_4 : jGet L107 4 = some (.int (i32 (0))) := eL107 ▸ jg_eq
              refine jx_ld (pc' := 86) (l' := L107) (st' := [.ref 66]) rfl (jl_aloadn gL107_0) ?_
              refine jx_ld (pc' := 88) (l' := L107) (st' := [.int (i32 (0)), .ref 66]) rfl (jl_iload gL107_4) ?_
              refine jx_if_eq (pc' := 91) (tg := 95) rfl rfl rfl (by omega) (by omega) (fun h108 => ?_) (fun h108 => ?_)
              · have _q := h108
                refine jx_ar (pc' := 96) (st' := [.int (i32 (5)), .ref 66]) rfl rfl rfl rfl ?_
                refine jr_put (pc' := 99) (i := 11) (z := 5) rfl rfl (by decide) rfl rfl rfl rfl rfl rfl ?_
                have hW109 : Wk (uG Gx 11 (5)) Ax := Wk_g hWx (show (0 : Int) ≤ 5 by omega) (show 5 ≤ (5 : Int) by omega)
                have hF110 := Fr_g (z := 5) (i := 11) hFx (by decide)
                refine jx_ld (pc' := 100) (l' := L107) (st' := [.ref 66]) rfl (jl_aloadn gL107_0) ?_
                refine jx_ld (pc' := 102) (l' := L107) (st' := [.int (i32 (0)), .ref 66]) rfl (jl_iload gL107_4) ?_
                refine jx_if_eq (pc' := 105) (tg := 110) rfl rfl rfl (by omega) (by omega) (fun h111 => ?_) (fun h111 => ?_)
                · have _q := h111
                  refine jx_ar (pc' := 111) (st' := [.int (i32 (0)), .ref 66]) rfl rfl rfl rfl ?_
                  refine jr_put (pc' := 114) (i := 13) (z := 0) rfl rfl (by decide) rfl rfl rfl rfl rfl rfl ?_
                  have hW112 : Wk (uG (uG Gx 11 (5)) 13 (0)) Ax := Wk_g hW109 (show (-2147483648 : Int) ≤ 0 by omega) (show 0 ≤ (2147483647 : Int) by omega)
                  have hF113 := Fr_g (z := 0) (i := 13) hF110 (by decide)
                  refine jx_rt (v := none) rfl rfl rfl rfl rfl rfl ?_
                  exact ⟨_, _, at1, 5, rfl, rfl, hW112, hF113, (ex_at1), rfl, by omega, by omega, by omega, trivial⟩
                · have _q := h111
                  exact absurd h111 (by omega)
              · have _q := h108
                exact absurd h108 (by omega)
            · have _q := h106
              refine jx_ld (pc' := 71) (l' := L) (st' := [.long (v)]) rfl (jl_lloadn gL_2) ?_
              refine jx_hp (pc' := 74) (st' := [.long (2147483647), .long (v)]) rfl rfl rfl rfl rfl rfl ?_
              refine jx_lcmp (pc' := 75) rfl rfl (fun r114 hr114 => ?_)
              refine jx_if_gt (pc' := 78) (tg := 82) rfl rfl rfl (by omega) (by omega) (fun h115 => ?_) (fun h115 => ?_)
              · have _q := h115
                refine jx_ar (pc' := 83) (st' := [.int (i32 (0))]) rfl rfl rfl rfl ?_
                refine jx_ld (pc' := 85) (l' := jSto1 L 4 (.int (i32 (0)))) (st' := []) rfl rfl ?_
                obtain ⟨L116, eL116⟩ : ∃ q, q = jSto1 L 4 (.int (i32 (0))) := ⟨_, rfl⟩
                rw [← eL116]
                have gL116_0 : jGet L116 0 = some (.ref 66) := eL116 ▸ jg_ne (by decide) gL_0 rfl
                have gL116_1 : jGet L116 1 = some (.int (i32 (n))) := eL116 ▸ jg_ne (by decide) gL_1 rfl
                have gL116_2 : jGet L116 2 = some (.long (v)) := eL116 ▸ jg_nel (by decide) gL_2 (by decide)
                have gL116_4 : jGet L116 4 = some (.int (i32 (0))) := eL116 ▸ jg_eq
                refine jx_ld (pc' := 86) (l' := L116) (st' := [.ref 66]) rfl (jl_aloadn gL116_0) ?_
                refine jx_ld (pc' := 88) (l' := L116) (st' := [.int (i32 (0)), .ref 66]) rfl (jl_iload gL116_4) ?_
                refine jx_if_eq (pc' := 91) (tg := 95) rfl rfl rfl (by omega) (by omega) (fun h117 => ?_) (fun h117 => ?_)
                · have _q := h117
                  refine jx_ar (pc' := 96) (st' := [.int (i32 (5)), .ref 66]) rfl rfl rfl rfl ?_
                  refine jr_put (pc' := 99) (i := 11) (z := 5) rfl rfl (by decide) rfl rfl rfl rfl rfl rfl ?_
                  have hW118 : Wk (uG Gx 11 (5)) Ax := Wk_g hWx (show (0 : Int) ≤ 5 by omega) (show 5 ≤ (5 : Int) by omega)
                  have hF119 := Fr_g (z := 5) (i := 11) hFx (by decide)
                  refine jx_ld (pc' := 100) (l' := L116) (st' := [.ref 66]) rfl (jl_aloadn gL116_0) ?_
                  refine jx_ld (pc' := 102) (l' := L116) (st' := [.int (i32 (0)), .ref 66]) rfl (jl_iload gL116_4) ?_
                  refine jx_if_eq (pc' := 105) (tg := 110) rfl rfl rfl (by omega) (by omega) (fun h120 => ?_) (fun h120 => ?_)
                  · have _q := h120
                    refine jx_ar (pc' := 111) (st' := [.int (i32 (0)), .ref 66]) rfl rfl rfl rfl ?_
                    refine jr_put (pc' := 114) (i := 13) (z := 0) rfl rfl (by decide) rfl rfl rfl rfl rfl rfl ?_
                    have hW121 : Wk (uG (uG Gx 11 (5)) 13 (0)) Ax := Wk_g hW118 (show (-2147483648 : Int) ≤ 0 by omega) (show 0 ≤ (2147483647 : Int) by omega)
                    have hF122 := Fr_g (z := 0) (i := 13) hF119 (by decide)
                    refine jx_rt (v := none) rfl rfl rfl rfl rfl rfl ?_
                    exact ⟨_, _, at1, 5, rfl, rfl, hW121, hF122, (ex_at1), rfl, by omega, by omega, by omega, trivial⟩
                  · have _q := h120
                    exact absurd h120 (by omega)
                · have _q := h117
                  exact absurd h117 (by omega)
              · have _q := h115
                refine jx_ar (pc' := 79) (st' := [.int (i32 (1))]) rfl rfl rfl rfl ?_
                refine jx_go (tg := 83) rfl rfl ?_
                refine jx_ld (pc' := 85) (l' := jSto1 L 4 (.int (i32 (1)))) (st' := []) rfl rfl ?_
                obtain ⟨L123, eL123⟩ : ∃ q, q = jSto1 L 4 (.int (i32 (1))) := ⟨_, rfl⟩
                rw [← eL123]
                have gL123_0 : jGet L123 0 = some (.ref 66) := eL123 ▸ jg_ne (by decide) gL_0 rfl
                have gL123_1 : jGet L123 1 = some (.int (i32 (n))) := eL123 ▸ jg_ne (by decide) gL_1 rfl
                have gL123_2 : jGet L123 2 = some (.long (v)) := eL123 ▸ jg_nel (by decide) gL_2 (by decide)
                have gL123_4 : jGet L123 4 = some (.int (i32 (1))) := eL123 ▸ jg_eq
                refine jx_ld (pc' := 86) (l' := L123) (st' := [.ref 66]) rfl (jl_aloadn gL123_0) ?_
                refine jx_ld (pc' := 88) (l' := L123) (st' := [.int (i32 (1)), .ref 66]) rfl (jl_iload gL123_4) ?_
                refine jx_if_eq (pc' := 91) (tg := 95) rfl rfl rfl (by omega) (by omega) (fun h124 => ?_) (fun h124 => ?_)
                · have _q := h124
                  exact absurd h124 (by omega)
                · have _q := h124
                  refine jx_ar (pc' := 92) (st' := [.int (i32 (3)), .ref 66]) rfl rfl rfl rfl ?_
                  refine jx_go (tg := 96) rfl rfl ?_
                  refine jr_put (pc' := 99) (i := 11) (z := 3) rfl rfl (by decide) rfl rfl rfl rfl rfl rfl ?_
                  have hW125 : Wk (uG Gx 11 (3)) Ax := Wk_g hWx (show (0 : Int) ≤ 3 by omega) (show 3 ≤ (5 : Int) by omega)
                  have hF126 := Fr_g (z := 3) (i := 11) hFx (by decide)
                  refine jx_ld (pc' := 100) (l' := L123) (st' := [.ref 66]) rfl (jl_aloadn gL123_0) ?_
                  refine jx_ld (pc' := 102) (l' := L123) (st' := [.int (i32 (1)), .ref 66]) rfl (jl_iload gL123_4) ?_
                  refine jx_if_eq (pc' := 105) (tg := 110) rfl rfl rfl (by omega) (by omega) (fun h127 => ?_) (fun h127 => ?_)
                  · have _q := h127
                    exact absurd h127 (by omega)
                  · have _q := h127
                    refine jx_ld (pc' := 106) (l' := L123) (st' := [.long (v), .ref 66]) rfl (jl_lloadn gL123_2) ?_
                    refine jx_l2i (pc' := 107) rfl rfl (fun r128 hr128 => ?_)
                    refine jx_go (tg := 111) rfl rfl ?_
                    refine jr_put (pc' := 114) (i := 13) (z := r128) rfl rfl (by decide) rfl rfl rfl rfl rfl rfl ?_
                    have hW129 : Wk (uG (uG Gx 11 (3)) 13 (r128)) Ax := Wk_g hW125 (show (-2147483648 : Int) ≤ r128 by omega) (show r128 ≤ (2147483647 : Int) by omega)
                    have hF130 := Fr_g (z := r128) (i := 13) hF126 (by decide)
                    refine jx_rt (v := none) rfl rfl rfl rfl rfl rfl ?_
                    exact ⟨_, _, at1, 3, rfl, rfl, hW129, hF130, (ex_at1), rfl, by omega, by omega, by omega, trivial⟩
          · have _q := h105
            exact absurd h105 (by omega)
  exact loop3 _ L2 G A (0) (at0) (tx) (Int64.ofNat 0) rfl gL2_0 gL2_1 gL2_2 hW hF0 ((e_at0)) ((e_tx)) (by omega) (by omega) (by omega) (by omega)
set_option maxRecDepth 20000 in
set_option maxHeartbeats 4000000 in
theorem c_signToken {X : jX} {dd : Nat} {c0 c1 : jC} {G : Nat → Int} {A : Nat → Nat → Int} {T : jH} {c : Int} {ln le at0 : Int} (hd : 2 ≤ dd) (hW : Wk G A) (e_ln : G 9 = ln) (e_le : A 4 (ln).toNat = le) (e_at0 : G 10 = at0) (h_c : (-2147483648 : Int) ≤ c ∧ c ≤ 2147483647) (p_0 : at0 < le) (p_1 : 0 ≤ c ∧ c ≤ 126) : wk X dd 266 [.ref 66, .int (i32 c)] (rV c0 c1 G A T) (fun o V' => ∃ (G' : Nat → Int) (A' : Nat → Nat → Int) (at2 : Int) (tk2 : Int), V' = rV c0 c1 G' A' T ∧ o = .inl none ∧ Wk G' A' ∧ Fr [10, 11, 13] [] G A G' A' ∧ G' 10 = at2 ∧ G' 11 = tk2 ∧ (at0 < at2) ∧ (at2 ≤ le) ∧ (1 ≤ tk2) ∧ True) := by
  obtain ⟨d, rfl⟩ : ∃ d, dd = d + 1 := ⟨dd - 1, by omega⟩
  refine wk_of (e := jm266) rfl (Nat.le_of_ble_eq_true rfl) ?_
  show wj X d jm266 (0, [(0, .ref 66), (1, .int (i32 (c)))], [], rV c0 c1 G A T) _
  have hF0 : Fr [10, 11, 13] [] G A G A := Fr_rf
  have b_ln : (0 : Int) ≤ ln ∧ ln ≤ 3000 := e_ln ▸ hW.1 9
  have b_le : (0 : Int) ≤ le ∧ le ≤ 3000 := e_le ▸ hW.2 4 _
  have b_at0 : (0 : Int) ≤ at0 ∧ at0 ≤ 3002 := e_at0 ▸ hW.1 10
  refine jx_ld (pc' := 1) (l' := [(0, .ref 66), (1, .int (i32 (c)))]) (st' := [.int (i32 (c))]) rfl (jl_iloadn rfl) ?_
  refine jx_ld (pc' := 2) (l' := [(0, .ref 66), (1, .int (i32 (c)))]) (st' := [.ref 66, .int (i32 (c))]) rfl (jl_aloadn rfl) ?_
  refine jx_ld (pc' := 3) (l' := [(0, .ref 66), (1, .int (i32 (c)))]) (st' := [.ref 66, .ref 66, .int (i32 (c))]) rfl (jl_aloadn rfl) ?_
  refine jr_get (pc' := 6) (i := 10) (v := .int (i32 (at0))) rfl rfl (by decide) (rFv_eq (by decide) (show G 10 = at0 from (e_at0))) rfl ?_
  refine jx_ar (pc' := 7) (st' := [.int (i32 (1)), .int (i32 (at0)), .ref 66, .int (i32 (c))]) rfl rfl rfl rfl ?_
  refine jx_add (pc' := 8) rfl rfl ?_
  have b1 : (0 : Int) ≤ A 0 ((at0 + 1)).toNat ∧ A 0 ((at0 + 1)).toNat ≤ 126 := hW.2 0 _
  refine jx_vr (pc' := 11) (as := [.int (i32 ((at0 + 1)))]) (st := [.int (i32 (c))]) rfl rfl rfl rfl ⟨rfl, rfl, Nat.le_of_ble_eq_true rfl⟩ rfl rfl (c_sign (dd := d) (hd := by omega) (hW := hW) (k := (at0 + 1)) (ln := ln) (e_ln := show G 9 = ln from (e_ln)) (le := le) (e_le := show A 4 (ln).toNat = le from (e_le)) (tx := A 0 ((at0 + 1)).toNat) (e_tx := show A 0 ((at0 + 1)).toNat = A 0 ((at0 + 1)).toNat from rfl)  (h_k := by omega)  (p_0 := by omega)) (fun o V' hq => ?_)
  obtain ⟨r2, rfl, rfl, b3, q4⟩ := hq
  refine .inr ⟨_, rfl, ?_⟩
  rcases q4 with ⟨a5, a6⟩ | ⟨a7, a8⟩
  · have _q : True := trivial
    refine jx_st (pc' := 14) (as := [.int (i32 (c)), .int (i32 (r2))]) (st := []) rfl rfl ⟨rfl, Nat.le_of_ble_eq_true rfl⟩ rfl rfl rfl (c_pair (dd := d) (hd := by omega) (c := c) (e := r2)   (h_c := by omega) (h_e := by omega)  ) (fun o V' hq => ?_)
    obtain ⟨r9, rfl, rfl, b10, p11, p12, -⟩ := hq
    refine .inr ⟨_, rfl, ?_⟩
    refine jx_ld (pc' := 15) (l' := jSto1 [(0, .ref 66), (1, .int (i32 (c)))] 2 (.int (i32 (r9)))) (st' := []) rfl rfl ?_
    obtain ⟨L14, eL14⟩ : ∃ q, q = jSto1 [(0, .ref 66), (1, .int (i32 (c)))] 2 (.int (i32 (r9))) := ⟨_, rfl⟩
    rw [← eL14]
    have gL14_0 : jGet L14 0 = some (.ref 66) := eL14 ▸ jg_ne (by decide) (rfl : jGet [(0, .ref 66), (1, .int (i32 (c)))] 0 = some (.ref 66)) rfl
    have gL14_1 : jGet L14 1 = some (.int (i32 (c))) := eL14 ▸ jg_ne (by decide) (rfl : jGet [(0, .ref 66), (1, .int (i32 (c)))] 1 = some (.int (i32 (c)))) rfl
    have gL14_2 : jGet L14 2 = some (.int (i32 (r9))) := eL14 ▸ jg_eq
    refine jx_hp (pc' := 18) (st' := [.ref 30]) rfl rfl rfl rfl rfl rfl ?_
    refine jx_ld (pc' := 19) (l' := L14) (st' := [.int (i32 (c)), .ref 30]) rfl (jl_iloadn gL14_1) ?_
    refine jx_si (pc' := 22) rfl rfl rfl ⟨Nat.le_of_ble_eq_true rfl, (by decide)⟩ (by omega) (by omega) rfl (fun r15 hr15 => ?_)
    refine jx_if_ge (pc' := 25) (tg := 31) rfl rfl rfl (by omega) (by omega) (fun h16 => ?_) (fun h16 => ?_)
    · have _q := h16
      refine jx_ar (pc' := 32) (st' := [.int (i32 (1))]) rfl rfl rfl rfl ?_
      refine jx_go (tg := 36) rfl rfl ?_
      refine jx_ld (pc' := 37) (l' := jSto1 L14 3 (.int (i32 (1)))) (st' := []) rfl rfl ?_
      obtain ⟨L17, eL17⟩ : ∃ q, q = jSto1 L14 3 (.int (i32 (1))) := ⟨_, rfl⟩
      rw [← eL17]
      have gL17_0 : jGet L17 0 = some (.ref 66) := eL17 ▸ jg_ne (by decide) gL14_0 rfl
      have gL17_1 : jGet L17 1 = some (.int (i32 (c))) := eL17 ▸ jg_ne (by decide) gL14_1 rfl
      have gL17_2 : jGet L17 2 = some (.int (i32 (r9))) := eL17 ▸ jg_ne (by decide) gL14_2 rfl
      have gL17_3 : jGet L17 3 = some (.int (i32 (1))) := eL17 ▸ jg_eq
      refine jx_ld (pc' := 38) (l' := L17) (st' := [.ref 66]) rfl (jl_aloadn gL17_0) ?_
      refine jx_ld (pc' := 39) (l' := L17) (st' := [.int (i32 (r9)), .ref 66]) rfl (jl_iloadn gL17_2) ?_
      refine jx_if_gt (pc' := 42) (tg := 46) rfl rfl rfl (by omega) (by omega) (fun h18 => ?_) (fun h18 => ?_)
      · have _q := h18
        refine jx_ar (pc' := 47) (st' := [.int (i32 (4)), .ref 66]) rfl rfl rfl rfl ?_
        refine jx_go (tg := 51) rfl rfl ?_
        refine jr_put (pc' := 54) (i := 11) (z := 4) rfl rfl (by decide) rfl rfl rfl rfl rfl rfl ?_
        have hW19 : Wk (uG G 11 (4)) A := Wk_g hW (show (0 : Int) ≤ 4 by omega) (show 4 ≤ (5 : Int) by omega)
        have hF20 := Fr_g (z := 4) (i := 11) hF0 (by decide)
        refine jx_ld (pc' := 55) (l' := L17) (st' := [.ref 66]) rfl (jl_aloadn gL17_0) ?_
        refine jx_ld (pc' := 56) (l' := L17) (st' := [.int (i32 (r9)), .ref 66]) rfl (jl_iloadn gL17_2) ?_
        refine jx_if_le (pc' := 59) (tg := 63) rfl rfl rfl (by omega) (by omega) (fun h21 => ?_) (fun h21 => ?_)
        · have _q := h21
          refine jx_ld (pc' := 64) (l' := L17) (st' := [.int (i32 (c)), .ref 66]) rfl (jl_iloadn gL17_1) ?_
          refine jr_put (pc' := 67) (i := 13) (z := c) rfl rfl (by decide) rfl rfl rfl rfl rfl rfl ?_
          have hW22 : Wk (uG (uG G 11 (4)) 13 (c)) A := Wk_g hW19 (show (-2147483648 : Int) ≤ c by omega) (show c ≤ (2147483647 : Int) by omega)
          have hF23 := Fr_g (z := c) (i := 13) hF20 (by decide)
          refine jx_ld (pc' := 68) (l' := L17) (st' := [.ref 66]) rfl (jl_aloadn gL17_0) ?_
          refine jx_ld (pc' := 69) (l' := L17) (st' := [.int (i32 (r9)), .ref 66]) rfl (jl_iloadn gL17_2) ?_
          refine jx_if_le (pc' := 72) (tg := 81) rfl rfl rfl (by omega) (by omega) (fun h24 => ?_) (fun h24 => ?_)
          · have _q := h24
            refine jx_ld (pc' := 82) (l' := L17) (st' := [.ref 66, .ref 66]) rfl (jl_aloadn gL17_0) ?_
            refine jr_get (pc' := 85) (i := 10) (v := .int (i32 (at0))) rfl rfl (by decide) (rFv_eq (by decide) (show (uG (uG G 11 (4)) 13 (c)) 10 = at0 from (e_at0))) rfl ?_
            refine jx_ar (pc' := 86) (st' := [.int (i32 (1)), .int (i32 (at0)), .ref 66]) rfl rfl rfl rfl ?_
            refine jx_add (pc' := 87) rfl rfl ?_
            refine jr_put (pc' := 90) (i := 10) (z := (at0 + 1)) rfl rfl (by decide) rfl rfl rfl rfl rfl rfl ?_
            have hW25 : Wk (uG (uG (uG G 11 (4)) 13 (c)) 10 ((at0 + 1))) A := Wk_g hW22 (show (0 : Int) ≤ (at0 + 1) by omega) (show (at0 + 1) ≤ (3002 : Int) by omega)
            have hF26 := Fr_g (z := (at0 + 1)) (i := 10) hF23 (by decide)
            refine jx_rt (v := none) rfl rfl rfl rfl rfl rfl ?_
            exact ⟨_, _, (at0 + 1), 4, rfl, rfl, hW25, hF26, rfl, rfl, by omega, by omega, by omega, trivial⟩
          · have _q := h24
            refine jx_ld (pc' := 73) (l' := L17) (st' := [.ref 66, .ref 66]) rfl (jl_aloadn gL17_0) ?_
            refine jr_get (pc' := 76) (i := 10) (v := .int (i32 (at0))) rfl rfl (by decide) (rFv_eq (by decide) (show (uG (uG G 11 (4)) 13 (c)) 10 = at0 from (e_at0))) rfl ?_
            refine jx_ar (pc' := 77) (st' := [.int (i32 (2)), .int (i32 (at0)), .ref 66]) rfl rfl rfl rfl ?_
            refine jx_add (pc' := 78) rfl rfl ?_
            refine jx_go (tg := 87) rfl rfl ?_
            refine jr_put (pc' := 90) (i := 10) (z := (at0 + 2)) rfl rfl (by decide) rfl rfl rfl rfl rfl rfl ?_
            have hW27 : Wk (uG (uG (uG G 11 (4)) 13 (c)) 10 ((at0 + 2))) A := Wk_g hW22 (show (0 : Int) ≤ (at0 + 2) by omega) (show (at0 + 2) ≤ (3002 : Int) by omega)
            have hF28 := Fr_g (z := (at0 + 2)) (i := 10) hF23 (by decide)
            refine jx_rt (v := none) rfl rfl rfl rfl rfl rfl ?_
            exact ⟨_, _, (at0 + 2), 4, rfl, rfl, hW27, hF28, rfl, rfl, by omega, by omega, by omega, trivial⟩
        · have _q := h21
          refine jx_ld (pc' := 60) (l' := L17) (st' := [.int (i32 (r9)), .ref 66]) rfl (jl_iloadn gL17_2) ?_
          refine jx_go (tg := 64) rfl rfl ?_
          refine jr_put (pc' := 67) (i := 13) (z := r9) rfl rfl (by decide) rfl rfl rfl rfl rfl rfl ?_
          have hW29 : Wk (uG (uG G 11 (4)) 13 (r9)) A := Wk_g hW19 (show (-2147483648 : Int) ≤ r9 by omega) (show r9 ≤ (2147483647 : Int) by omega)
          have hF30 := Fr_g (z := r9) (i := 13) hF20 (by decide)
          refine jx_ld (pc' := 68) (l' := L17) (st' := [.ref 66]) rfl (jl_aloadn gL17_0) ?_
          refine jx_ld (pc' := 69) (l' := L17) (st' := [.int (i32 (r9)), .ref 66]) rfl (jl_iloadn gL17_2) ?_
          refine jx_if_le (pc' := 72) (tg := 81) rfl rfl rfl (by omega) (by omega) (fun h31 => ?_) (fun h31 => ?_)
          · have _q := h31
            refine jx_ld (pc' := 82) (l' := L17) (st' := [.ref 66, .ref 66]) rfl (jl_aloadn gL17_0) ?_
            refine jr_get (pc' := 85) (i := 10) (v := .int (i32 (at0))) rfl rfl (by decide) (rFv_eq (by decide) (show (uG (uG G 11 (4)) 13 (r9)) 10 = at0 from (e_at0))) rfl ?_
            refine jx_ar (pc' := 86) (st' := [.int (i32 (1)), .int (i32 (at0)), .ref 66]) rfl rfl rfl rfl ?_
            refine jx_add (pc' := 87) rfl rfl ?_
            refine jr_put (pc' := 90) (i := 10) (z := (at0 + 1)) rfl rfl (by decide) rfl rfl rfl rfl rfl rfl ?_
            have hW32 : Wk (uG (uG (uG G 11 (4)) 13 (r9)) 10 ((at0 + 1))) A := Wk_g hW29 (show (0 : Int) ≤ (at0 + 1) by omega) (show (at0 + 1) ≤ (3002 : Int) by omega)
            have hF33 := Fr_g (z := (at0 + 1)) (i := 10) hF30 (by decide)
            refine jx_rt (v := none) rfl rfl rfl rfl rfl rfl ?_
            exact ⟨_, _, (at0 + 1), 4, rfl, rfl, hW32, hF33, rfl, rfl, by omega, by omega, by omega, trivial⟩
          · have _q := h31
            refine jx_ld (pc' := 73) (l' := L17) (st' := [.ref 66, .ref 66]) rfl (jl_aloadn gL17_0) ?_
            refine jr_get (pc' := 76) (i := 10) (v := .int (i32 (at0))) rfl rfl (by decide) (rFv_eq (by decide) (show (uG (uG G 11 (4)) 13 (r9)) 10 = at0 from (e_at0))) rfl ?_
            refine jx_ar (pc' := 77) (st' := [.int (i32 (2)), .int (i32 (at0)), .ref 66]) rfl rfl rfl rfl ?_
            refine jx_add (pc' := 78) rfl rfl ?_
            refine jx_go (tg := 87) rfl rfl ?_
            refine jr_put (pc' := 90) (i := 10) (z := (at0 + 2)) rfl rfl (by decide) rfl rfl rfl rfl rfl rfl ?_
            have hW34 : Wk (uG (uG (uG G 11 (4)) 13 (r9)) 10 ((at0 + 2))) A := Wk_g hW29 (show (0 : Int) ≤ (at0 + 2) by omega) (show (at0 + 2) ≤ (3002 : Int) by omega)
            have hF35 := Fr_g (z := (at0 + 2)) (i := 10) hF30 (by decide)
            refine jx_rt (v := none) rfl rfl rfl rfl rfl rfl ?_
            exact ⟨_, _, (at0 + 2), 4, rfl, rfl, hW34, hF35, rfl, rfl, by omega, by omega, by omega, trivial⟩
      · have _q := h18
        refine jx_ld (pc' := 43) (l' := L17) (st' := [.int (i32 (1)), .ref 66]) rfl (jl_iloadn gL17_3) ?_
        refine jx_if_eq (pc' := 46) (tg := 50) rfl rfl rfl (by omega) (by omega) (fun h36 => ?_) (fun h36 => ?_)
        · have _q := h36
          exact absurd h36 (by omega)
        · have _q := h36
          refine jx_ar (pc' := 47) (st' := [.int (i32 (4)), .ref 66]) rfl rfl rfl rfl ?_
          refine jx_go (tg := 51) rfl rfl ?_
          refine jr_put (pc' := 54) (i := 11) (z := 4) rfl rfl (by decide) rfl rfl rfl rfl rfl rfl ?_
          have hW37 : Wk (uG G 11 (4)) A := Wk_g hW (show (0 : Int) ≤ 4 by omega) (show 4 ≤ (5 : Int) by omega)
          have hF38 := Fr_g (z := 4) (i := 11) hF0 (by decide)
          refine jx_ld (pc' := 55) (l' := L17) (st' := [.ref 66]) rfl (jl_aloadn gL17_0) ?_
          refine jx_ld (pc' := 56) (l' := L17) (st' := [.int (i32 (r9)), .ref 66]) rfl (jl_iloadn gL17_2) ?_
          refine jx_if_le (pc' := 59) (tg := 63) rfl rfl rfl (by omega) (by omega) (fun h39 => ?_) (fun h39 => ?_)
          · have _q := h39
            refine jx_ld (pc' := 64) (l' := L17) (st' := [.int (i32 (c)), .ref 66]) rfl (jl_iloadn gL17_1) ?_
            refine jr_put (pc' := 67) (i := 13) (z := c) rfl rfl (by decide) rfl rfl rfl rfl rfl rfl ?_
            have hW40 : Wk (uG (uG G 11 (4)) 13 (c)) A := Wk_g hW37 (show (-2147483648 : Int) ≤ c by omega) (show c ≤ (2147483647 : Int) by omega)
            have hF41 := Fr_g (z := c) (i := 13) hF38 (by decide)
            refine jx_ld (pc' := 68) (l' := L17) (st' := [.ref 66]) rfl (jl_aloadn gL17_0) ?_
            refine jx_ld (pc' := 69) (l' := L17) (st' := [.int (i32 (r9)), .ref 66]) rfl (jl_iloadn gL17_2) ?_
            refine jx_if_le (pc' := 72) (tg := 81) rfl rfl rfl (by omega) (by omega) (fun h42 => ?_) (fun h42 => ?_)
            · have _q := h42
              refine jx_ld (pc' := 82) (l' := L17) (st' := [.ref 66, .ref 66]) rfl (jl_aloadn gL17_0) ?_
              refine jr_get (pc' := 85) (i := 10) (v := .int (i32 (at0))) rfl rfl (by decide) (rFv_eq (by decide) (show (uG (uG G 11 (4)) 13 (c)) 10 = at0 from (e_at0))) rfl ?_
              refine jx_ar (pc' := 86) (st' := [.int (i32 (1)), .int (i32 (at0)), .ref 66]) rfl rfl rfl rfl ?_
              refine jx_add (pc' := 87) rfl rfl ?_
              refine jr_put (pc' := 90) (i := 10) (z := (at0 + 1)) rfl rfl (by decide) rfl rfl rfl rfl rfl rfl ?_
              have hW43 : Wk (uG (uG (uG G 11 (4)) 13 (c)) 10 ((at0 + 1))) A := Wk_g hW40 (show (0 : Int) ≤ (at0 + 1) by omega) (show (at0 + 1) ≤ (3002 : Int) by omega)
              have hF44 := Fr_g (z := (at0 + 1)) (i := 10) hF41 (by decide)
              refine jx_rt (v := none) rfl rfl rfl rfl rfl rfl ?_
              exact ⟨_, _, (at0 + 1), 4, rfl, rfl, hW43, hF44, rfl, rfl, by omega, by omega, by omega, trivial⟩
            · have _q := h42
              refine jx_ld (pc' := 73) (l' := L17) (st' := [.ref 66, .ref 66]) rfl (jl_aloadn gL17_0) ?_
              refine jr_get (pc' := 76) (i := 10) (v := .int (i32 (at0))) rfl rfl (by decide) (rFv_eq (by decide) (show (uG (uG G 11 (4)) 13 (c)) 10 = at0 from (e_at0))) rfl ?_
              refine jx_ar (pc' := 77) (st' := [.int (i32 (2)), .int (i32 (at0)), .ref 66]) rfl rfl rfl rfl ?_
              refine jx_add (pc' := 78) rfl rfl ?_
              refine jx_go (tg := 87) rfl rfl ?_
              refine jr_put (pc' := 90) (i := 10) (z := (at0 + 2)) rfl rfl (by decide) rfl rfl rfl rfl rfl rfl ?_
              have hW45 : Wk (uG (uG (uG G 11 (4)) 13 (c)) 10 ((at0 + 2))) A := Wk_g hW40 (show (0 : Int) ≤ (at0 + 2) by omega) (show (at0 + 2) ≤ (3002 : Int) by omega)
              have hF46 := Fr_g (z := (at0 + 2)) (i := 10) hF41 (by decide)
              refine jx_rt (v := none) rfl rfl rfl rfl rfl rfl ?_
              exact ⟨_, _, (at0 + 2), 4, rfl, rfl, hW45, hF46, rfl, rfl, by omega, by omega, by omega, trivial⟩
          · have _q := h39
            refine jx_ld (pc' := 60) (l' := L17) (st' := [.int (i32 (r9)), .ref 66]) rfl (jl_iloadn gL17_2) ?_
            refine jx_go (tg := 64) rfl rfl ?_
            refine jr_put (pc' := 67) (i := 13) (z := r9) rfl rfl (by decide) rfl rfl rfl rfl rfl rfl ?_
            have hW47 : Wk (uG (uG G 11 (4)) 13 (r9)) A := Wk_g hW37 (show (-2147483648 : Int) ≤ r9 by omega) (show r9 ≤ (2147483647 : Int) by omega)
            have hF48 := Fr_g (z := r9) (i := 13) hF38 (by decide)
            refine jx_ld (pc' := 68) (l' := L17) (st' := [.ref 66]) rfl (jl_aloadn gL17_0) ?_
            refine jx_ld (pc' := 69) (l' := L17) (st' := [.int (i32 (r9)), .ref 66]) rfl (jl_iloadn gL17_2) ?_
            refine jx_if_le (pc' := 72) (tg := 81) rfl rfl rfl (by omega) (by omega) (fun h49 => ?_) (fun h49 => ?_)
            · have _q := h49
              refine jx_ld (pc' := 82) (l' := L17) (st' := [.ref 66, .ref 66]) rfl (jl_aloadn gL17_0) ?_
              refine jr_get (pc' := 85) (i := 10) (v := .int (i32 (at0))) rfl rfl (by decide) (rFv_eq (by decide) (show (uG (uG G 11 (4)) 13 (r9)) 10 = at0 from (e_at0))) rfl ?_
              refine jx_ar (pc' := 86) (st' := [.int (i32 (1)), .int (i32 (at0)), .ref 66]) rfl rfl rfl rfl ?_
              refine jx_add (pc' := 87) rfl rfl ?_
              refine jr_put (pc' := 90) (i := 10) (z := (at0 + 1)) rfl rfl (by decide) rfl rfl rfl rfl rfl rfl ?_
              have hW50 : Wk (uG (uG (uG G 11 (4)) 13 (r9)) 10 ((at0 + 1))) A := Wk_g hW47 (show (0 : Int) ≤ (at0 + 1) by omega) (show (at0 + 1) ≤ (3002 : Int) by omega)
              have hF51 := Fr_g (z := (at0 + 1)) (i := 10) hF48 (by decide)
              refine jx_rt (v := none) rfl rfl rfl rfl rfl rfl ?_
              exact ⟨_, _, (at0 + 1), 4, rfl, rfl, hW50, hF51, rfl, rfl, by omega, by omega, by omega, trivial⟩
            · have _q := h49
              refine jx_ld (pc' := 73) (l' := L17) (st' := [.ref 66, .ref 66]) rfl (jl_aloadn gL17_0) ?_
              refine jr_get (pc' := 76) (i := 10) (v := .int (i32 (at0))) rfl rfl (by decide) (rFv_eq (by decide) (show (uG (uG G 11 (4)) 13 (r9)) 10 = at0 from (e_at0))) rfl ?_
              refine jx_ar (pc' := 77) (st' := [.int (i32 (2)), .int (i32 (at0)), .ref 66]) rfl rfl rfl rfl ?_
              refine jx_add (pc' := 78) rfl rfl ?_
              refine jx_go (tg := 87) rfl rfl ?_
              refine jr_put (pc' := 90) (i := 10) (z := (at0 + 2)) rfl rfl (by decide) rfl rfl rfl rfl rfl rfl ?_
              have hW52 : Wk (uG (uG (uG G 11 (4)) 13 (r9)) 10 ((at0 + 2))) A := Wk_g hW47 (show (0 : Int) ≤ (at0 + 2) by omega) (show (at0 + 2) ≤ (3002 : Int) by omega)
              have hF53 := Fr_g (z := (at0 + 2)) (i := 10) hF48 (by decide)
              refine jx_rt (v := none) rfl rfl rfl rfl rfl rfl ?_
              exact ⟨_, _, (at0 + 2), 4, rfl, rfl, hW52, hF53, rfl, rfl, by omega, by omega, by omega, trivial⟩
    · have _q := h16
      refine jx_ld (pc' := 26) (l' := L14) (st' := [.int (i32 (c))]) rfl (jl_iloadn gL14_1) ?_
      refine jx_ar (pc' := 28) (st' := [.int (i32 (92)), .int (i32 (c))]) rfl rfl rfl rfl ?_
      refine jx_icmp_ne (pc' := 31) (tg := 35) rfl rfl rfl (by omega) (by omega) (by omega) (by omega) (fun h54 => ?_) (fun h54 => ?_)
      · have _q := h54
        refine jx_ar (pc' := 36) (st' := [.int (i32 (0))]) rfl rfl rfl rfl ?_
        refine jx_ld (pc' := 37) (l' := jSto1 L14 3 (.int (i32 (0)))) (st' := []) rfl rfl ?_
        obtain ⟨L55, eL55⟩ : ∃ q, q = jSto1 L14 3 (.int (i32 (0))) := ⟨_, rfl⟩
        rw [← eL55]
        have gL55_0 : jGet L55 0 = some (.ref 66) := eL55 ▸ jg_ne (by decide) gL14_0 rfl
        have gL55_1 : jGet L55 1 = some (.int (i32 (c))) := eL55 ▸ jg_ne (by decide) gL14_1 rfl
        have gL55_2 : jGet L55 2 = some (.int (i32 (r9))) := eL55 ▸ jg_ne (by decide) gL14_2 rfl
        have gL55_3 : jGet L55 3 = some (.int (i32 (0))) := eL55 ▸ jg_eq
        refine jx_ld (pc' := 38) (l' := L55) (st' := [.ref 66]) rfl (jl_aloadn gL55_0) ?_
        refine jx_ld (pc' := 39) (l' := L55) (st' := [.int (i32 (r9)), .ref 66]) rfl (jl_iloadn gL55_2) ?_
        refine jx_if_gt (pc' := 42) (tg := 46) rfl rfl rfl (by omega) (by omega) (fun h56 => ?_) (fun h56 => ?_)
        · have _q := h56
          refine jx_ar (pc' := 47) (st' := [.int (i32 (4)), .ref 66]) rfl rfl rfl rfl ?_
          refine jx_go (tg := 51) rfl rfl ?_
          refine jr_put (pc' := 54) (i := 11) (z := 4) rfl rfl (by decide) rfl rfl rfl rfl rfl rfl ?_
          have hW57 : Wk (uG G 11 (4)) A := Wk_g hW (show (0 : Int) ≤ 4 by omega) (show 4 ≤ (5 : Int) by omega)
          have hF58 := Fr_g (z := 4) (i := 11) hF0 (by decide)
          refine jx_ld (pc' := 55) (l' := L55) (st' := [.ref 66]) rfl (jl_aloadn gL55_0) ?_
          refine jx_ld (pc' := 56) (l' := L55) (st' := [.int (i32 (r9)), .ref 66]) rfl (jl_iloadn gL55_2) ?_
          refine jx_if_le (pc' := 59) (tg := 63) rfl rfl rfl (by omega) (by omega) (fun h59 => ?_) (fun h59 => ?_)
          · have _q := h59
            refine jx_ld (pc' := 64) (l' := L55) (st' := [.int (i32 (c)), .ref 66]) rfl (jl_iloadn gL55_1) ?_
            refine jr_put (pc' := 67) (i := 13) (z := c) rfl rfl (by decide) rfl rfl rfl rfl rfl rfl ?_
            have hW60 : Wk (uG (uG G 11 (4)) 13 (c)) A := Wk_g hW57 (show (-2147483648 : Int) ≤ c by omega) (show c ≤ (2147483647 : Int) by omega)
            have hF61 := Fr_g (z := c) (i := 13) hF58 (by decide)
            refine jx_ld (pc' := 68) (l' := L55) (st' := [.ref 66]) rfl (jl_aloadn gL55_0) ?_
            refine jx_ld (pc' := 69) (l' := L55) (st' := [.int (i32 (r9)), .ref 66]) rfl (jl_iloadn gL55_2) ?_
            refine jx_if_le (pc' := 72) (tg := 81) rfl rfl rfl (by omega) (by omega) (fun h62 => ?_) (fun h62 => ?_)
            · have _q := h62
              refine jx_ld (pc' := 82) (l' := L55) (st' := [.ref 66, .ref 66]) rfl (jl_aloadn gL55_0) ?_
              refine jr_get (pc' := 85) (i := 10) (v := .int (i32 (at0))) rfl rfl (by decide) (rFv_eq (by decide) (show (uG (uG G 11 (4)) 13 (c)) 10 = at0 from (e_at0))) rfl ?_
              refine jx_ar (pc' := 86) (st' := [.int (i32 (1)), .int (i32 (at0)), .ref 66]) rfl rfl rfl rfl ?_
              refine jx_add (pc' := 87) rfl rfl ?_
              refine jr_put (pc' := 90) (i := 10) (z := (at0 + 1)) rfl rfl (by decide) rfl rfl rfl rfl rfl rfl ?_
              have hW63 : Wk (uG (uG (uG G 11 (4)) 13 (c)) 10 ((at0 + 1))) A := Wk_g hW60 (show (0 : Int) ≤ (at0 + 1) by omega) (show (at0 + 1) ≤ (3002 : Int) by omega)
              have hF64 := Fr_g (z := (at0 + 1)) (i := 10) hF61 (by decide)
              refine jx_rt (v := none) rfl rfl rfl rfl rfl rfl ?_
              exact ⟨_, _, (at0 + 1), 4, rfl, rfl, hW63, hF64, rfl, rfl, by omega, by omega, by omega, trivial⟩
            · have _q := h62
              refine jx_ld (pc' := 73) (l' := L55) (st' := [.ref 66, .ref 66]) rfl (jl_aloadn gL55_0) ?_
              refine jr_get (pc' := 76) (i := 10) (v := .int (i32 (at0))) rfl rfl (by decide) (rFv_eq (by decide) (show (uG (uG G 11 (4)) 13 (c)) 10 = at0 from (e_at0))) rfl ?_
              refine jx_ar (pc' := 77) (st' := [.int (i32 (2)), .int (i32 (at0)), .ref 66]) rfl rfl rfl rfl ?_
              refine jx_add (pc' := 78) rfl rfl ?_
              refine jx_go (tg := 87) rfl rfl ?_
              refine jr_put (pc' := 90) (i := 10) (z := (at0 + 2)) rfl rfl (by decide) rfl rfl rfl rfl rfl rfl ?_
              have hW65 : Wk (uG (uG (uG G 11 (4)) 13 (c)) 10 ((at0 + 2))) A := Wk_g hW60 (show (0 : Int) ≤ (at0 + 2) by omega) (show (at0 + 2) ≤ (3002 : Int) by omega)
              have hF66 := Fr_g (z := (at0 + 2)) (i := 10) hF61 (by decide)
              refine jx_rt (v := none) rfl rfl rfl rfl rfl rfl ?_
              exact ⟨_, _, (at0 + 2), 4, rfl, rfl, hW65, hF66, rfl, rfl, by omega, by omega, by omega, trivial⟩
          · have _q := h59
            refine jx_ld (pc' := 60) (l' := L55) (st' := [.int (i32 (r9)), .ref 66]) rfl (jl_iloadn gL55_2) ?_
            refine jx_go (tg := 64) rfl rfl ?_
            refine jr_put (pc' := 67) (i := 13) (z := r9) rfl rfl (by decide) rfl rfl rfl rfl rfl rfl ?_
            have hW67 : Wk (uG (uG G 11 (4)) 13 (r9)) A := Wk_g hW57 (show (-2147483648 : Int) ≤ r9 by omega) (show r9 ≤ (2147483647 : Int) by omega)
            have hF68 := Fr_g (z := r9) (i := 13) hF58 (by decide)
            refine jx_ld (pc' := 68) (l' := L55) (st' := [.ref 66]) rfl (jl_aloadn gL55_0) ?_
            refine jx_ld (pc' := 69) (l' := L55) (st' := [.int (i32 (r9)), .ref 66]) rfl (jl_iloadn gL55_2) ?_
            refine jx_if_le (pc' := 72) (tg := 81) rfl rfl rfl (by omega) (by omega) (fun h69 => ?_) (fun h69 => ?_)
            · have _q := h69
              refine jx_ld (pc' := 82) (l' := L55) (st' := [.ref 66, .ref 66]) rfl (jl_aloadn gL55_0) ?_
              refine jr_get (pc' := 85) (i := 10) (v := .int (i32 (at0))) rfl rfl (by decide) (rFv_eq (by decide) (show (uG (uG G 11 (4)) 13 (r9)) 10 = at0 from (e_at0))) rfl ?_
              refine jx_ar (pc' := 86) (st' := [.int (i32 (1)), .int (i32 (at0)), .ref 66]) rfl rfl rfl rfl ?_
              refine jx_add (pc' := 87) rfl rfl ?_
              refine jr_put (pc' := 90) (i := 10) (z := (at0 + 1)) rfl rfl (by decide) rfl rfl rfl rfl rfl rfl ?_
              have hW70 : Wk (uG (uG (uG G 11 (4)) 13 (r9)) 10 ((at0 + 1))) A := Wk_g hW67 (show (0 : Int) ≤ (at0 + 1) by omega) (show (at0 + 1) ≤ (3002 : Int) by omega)
              have hF71 := Fr_g (z := (at0 + 1)) (i := 10) hF68 (by decide)
              refine jx_rt (v := none) rfl rfl rfl rfl rfl rfl ?_
              exact ⟨_, _, (at0 + 1), 4, rfl, rfl, hW70, hF71, rfl, rfl, by omega, by omega, by omega, trivial⟩
            · have _q := h69
              refine jx_ld (pc' := 73) (l' := L55) (st' := [.ref 66, .ref 66]) rfl (jl_aloadn gL55_0) ?_
              refine jr_get (pc' := 76) (i := 10) (v := .int (i32 (at0))) rfl rfl (by decide) (rFv_eq (by decide) (show (uG (uG G 11 (4)) 13 (r9)) 10 = at0 from (e_at0))) rfl ?_
              refine jx_ar (pc' := 77) (st' := [.int (i32 (2)), .int (i32 (at0)), .ref 66]) rfl rfl rfl rfl ?_
              refine jx_add (pc' := 78) rfl rfl ?_
              refine jx_go (tg := 87) rfl rfl ?_
              refine jr_put (pc' := 90) (i := 10) (z := (at0 + 2)) rfl rfl (by decide) rfl rfl rfl rfl rfl rfl ?_
              have hW72 : Wk (uG (uG (uG G 11 (4)) 13 (r9)) 10 ((at0 + 2))) A := Wk_g hW67 (show (0 : Int) ≤ (at0 + 2) by omega) (show (at0 + 2) ≤ (3002 : Int) by omega)
              have hF73 := Fr_g (z := (at0 + 2)) (i := 10) hF68 (by decide)
              refine jx_rt (v := none) rfl rfl rfl rfl rfl rfl ?_
              exact ⟨_, _, (at0 + 2), 4, rfl, rfl, hW72, hF73, rfl, rfl, by omega, by omega, by omega, trivial⟩
        · have _q := h56
          refine jx_ld (pc' := 43) (l' := L55) (st' := [.int (i32 (0)), .ref 66]) rfl (jl_iloadn gL55_3) ?_
          refine jx_if_eq (pc' := 46) (tg := 50) rfl rfl rfl (by omega) (by omega) (fun h74 => ?_) (fun h74 => ?_)
          · have _q := h74
            refine jx_ar (pc' := 51) (st' := [.int (i32 (5)), .ref 66]) rfl rfl rfl rfl ?_
            refine jr_put (pc' := 54) (i := 11) (z := 5) rfl rfl (by decide) rfl rfl rfl rfl rfl rfl ?_
            have hW75 : Wk (uG G 11 (5)) A := Wk_g hW (show (0 : Int) ≤ 5 by omega) (show 5 ≤ (5 : Int) by omega)
            have hF76 := Fr_g (z := 5) (i := 11) hF0 (by decide)
            refine jx_ld (pc' := 55) (l' := L55) (st' := [.ref 66]) rfl (jl_aloadn gL55_0) ?_
            refine jx_ld (pc' := 56) (l' := L55) (st' := [.int (i32 (r9)), .ref 66]) rfl (jl_iloadn gL55_2) ?_
            refine jx_if_le (pc' := 59) (tg := 63) rfl rfl rfl (by omega) (by omega) (fun h77 => ?_) (fun h77 => ?_)
            · have _q := h77
              refine jx_ld (pc' := 64) (l' := L55) (st' := [.int (i32 (c)), .ref 66]) rfl (jl_iloadn gL55_1) ?_
              refine jr_put (pc' := 67) (i := 13) (z := c) rfl rfl (by decide) rfl rfl rfl rfl rfl rfl ?_
              have hW78 : Wk (uG (uG G 11 (5)) 13 (c)) A := Wk_g hW75 (show (-2147483648 : Int) ≤ c by omega) (show c ≤ (2147483647 : Int) by omega)
              have hF79 := Fr_g (z := c) (i := 13) hF76 (by decide)
              refine jx_ld (pc' := 68) (l' := L55) (st' := [.ref 66]) rfl (jl_aloadn gL55_0) ?_
              refine jx_ld (pc' := 69) (l' := L55) (st' := [.int (i32 (r9)), .ref 66]) rfl (jl_iloadn gL55_2) ?_
              refine jx_if_le (pc' := 72) (tg := 81) rfl rfl rfl (by omega) (by omega) (fun h80 => ?_) (fun h80 => ?_)
              · have _q := h80
                refine jx_ld (pc' := 82) (l' := L55) (st' := [.ref 66, .ref 66]) rfl (jl_aloadn gL55_0) ?_
                refine jr_get (pc' := 85) (i := 10) (v := .int (i32 (at0))) rfl rfl (by decide) (rFv_eq (by decide) (show (uG (uG G 11 (5)) 13 (c)) 10 = at0 from (e_at0))) rfl ?_
                refine jx_ar (pc' := 86) (st' := [.int (i32 (1)), .int (i32 (at0)), .ref 66]) rfl rfl rfl rfl ?_
                refine jx_add (pc' := 87) rfl rfl ?_
                refine jr_put (pc' := 90) (i := 10) (z := (at0 + 1)) rfl rfl (by decide) rfl rfl rfl rfl rfl rfl ?_
                have hW81 : Wk (uG (uG (uG G 11 (5)) 13 (c)) 10 ((at0 + 1))) A := Wk_g hW78 (show (0 : Int) ≤ (at0 + 1) by omega) (show (at0 + 1) ≤ (3002 : Int) by omega)
                have hF82 := Fr_g (z := (at0 + 1)) (i := 10) hF79 (by decide)
                refine jx_rt (v := none) rfl rfl rfl rfl rfl rfl ?_
                exact ⟨_, _, (at0 + 1), 5, rfl, rfl, hW81, hF82, rfl, rfl, by omega, by omega, by omega, trivial⟩
              · have _q := h80
                refine jx_ld (pc' := 73) (l' := L55) (st' := [.ref 66, .ref 66]) rfl (jl_aloadn gL55_0) ?_
                refine jr_get (pc' := 76) (i := 10) (v := .int (i32 (at0))) rfl rfl (by decide) (rFv_eq (by decide) (show (uG (uG G 11 (5)) 13 (c)) 10 = at0 from (e_at0))) rfl ?_
                refine jx_ar (pc' := 77) (st' := [.int (i32 (2)), .int (i32 (at0)), .ref 66]) rfl rfl rfl rfl ?_
                refine jx_add (pc' := 78) rfl rfl ?_
                refine jx_go (tg := 87) rfl rfl ?_
                refine jr_put (pc' := 90) (i := 10) (z := (at0 + 2)) rfl rfl (by decide) rfl rfl rfl rfl rfl rfl ?_
                have hW83 : Wk (uG (uG (uG G 11 (5)) 13 (c)) 10 ((at0 + 2))) A := Wk_g hW78 (show (0 : Int) ≤ (at0 + 2) by omega) (show (at0 + 2) ≤ (3002 : Int) by omega)
                have hF84 := Fr_g (z := (at0 + 2)) (i := 10) hF79 (by decide)
                refine jx_rt (v := none) rfl rfl rfl rfl rfl rfl ?_
                exact ⟨_, _, (at0 + 2), 5, rfl, rfl, hW83, hF84, rfl, rfl, by omega, by omega, by omega, trivial⟩
            · have _q := h77
              refine jx_ld (pc' := 60) (l' := L55) (st' := [.int (i32 (r9)), .ref 66]) rfl (jl_iloadn gL55_2) ?_
              refine jx_go (tg := 64) rfl rfl ?_
              refine jr_put (pc' := 67) (i := 13) (z := r9) rfl rfl (by decide) rfl rfl rfl rfl rfl rfl ?_
              have hW85 : Wk (uG (uG G 11 (5)) 13 (r9)) A := Wk_g hW75 (show (-2147483648 : Int) ≤ r9 by omega) (show r9 ≤ (2147483647 : Int) by omega)
              have hF86 := Fr_g (z := r9) (i := 13) hF76 (by decide)
              refine jx_ld (pc' := 68) (l' := L55) (st' := [.ref 66]) rfl (jl_aloadn gL55_0) ?_
              refine jx_ld (pc' := 69) (l' := L55) (st' := [.int (i32 (r9)), .ref 66]) rfl (jl_iloadn gL55_2) ?_
              refine jx_if_le (pc' := 72) (tg := 81) rfl rfl rfl (by omega) (by omega) (fun h87 => ?_) (fun h87 => ?_)
              · have _q := h87
                refine jx_ld (pc' := 82) (l' := L55) (st' := [.ref 66, .ref 66]) rfl (jl_aloadn gL55_0) ?_
                refine jr_get (pc' := 85) (i := 10) (v := .int (i32 (at0))) rfl rfl (by decide) (rFv_eq (by decide) (show (uG (uG G 11 (5)) 13 (r9)) 10 = at0 from (e_at0))) rfl ?_
                refine jx_ar (pc' := 86) (st' := [.int (i32 (1)), .int (i32 (at0)), .ref 66]) rfl rfl rfl rfl ?_
                refine jx_add (pc' := 87) rfl rfl ?_
                refine jr_put (pc' := 90) (i := 10) (z := (at0 + 1)) rfl rfl (by decide) rfl rfl rfl rfl rfl rfl ?_
                have hW88 : Wk (uG (uG (uG G 11 (5)) 13 (r9)) 10 ((at0 + 1))) A := Wk_g hW85 (show (0 : Int) ≤ (at0 + 1) by omega) (show (at0 + 1) ≤ (3002 : Int) by omega)
                have hF89 := Fr_g (z := (at0 + 1)) (i := 10) hF86 (by decide)
                refine jx_rt (v := none) rfl rfl rfl rfl rfl rfl ?_
                exact ⟨_, _, (at0 + 1), 5, rfl, rfl, hW88, hF89, rfl, rfl, by omega, by omega, by omega, trivial⟩
              · have _q := h87
                refine jx_ld (pc' := 73) (l' := L55) (st' := [.ref 66, .ref 66]) rfl (jl_aloadn gL55_0) ?_
                refine jr_get (pc' := 76) (i := 10) (v := .int (i32 (at0))) rfl rfl (by decide) (rFv_eq (by decide) (show (uG (uG G 11 (5)) 13 (r9)) 10 = at0 from (e_at0))) rfl ?_
                refine jx_ar (pc' := 77) (st' := [.int (i32 (2)), .int (i32 (at0)), .ref 66]) rfl rfl rfl rfl ?_
                refine jx_add (pc' := 78) rfl rfl ?_
                refine jx_go (tg := 87) rfl rfl ?_
                refine jr_put (pc' := 90) (i := 10) (z := (at0 + 2)) rfl rfl (by decide) rfl rfl rfl rfl rfl rfl ?_
                have hW90 : Wk (uG (uG (uG G 11 (5)) 13 (r9)) 10 ((at0 + 2))) A := Wk_g hW85 (show (0 : Int) ≤ (at0 + 2) by omega) (show (at0 + 2) ≤ (3002 : Int) by omega)
                have hF91 := Fr_g (z := (at0 + 2)) (i := 10) hF86 (by decide)
                refine jx_rt (v := none) rfl rfl rfl rfl rfl rfl ?_
                exact ⟨_, _, (at0 + 2), 5, rfl, rfl, hW90, hF91, rfl, rfl, by omega, by omega, by omega, trivial⟩
          · have _q := h74
            exact absurd h74 (by omega)
      · have _q := h54
        refine jx_ar (pc' := 32) (st' := [.int (i32 (1))]) rfl rfl rfl rfl ?_
        refine jx_go (tg := 36) rfl rfl ?_
        refine jx_ld (pc' := 37) (l' := jSto1 L14 3 (.int (i32 (1)))) (st' := []) rfl rfl ?_
        obtain ⟨L92, eL92⟩ : ∃ q, q = jSto1 L14 3 (.int (i32 (1))) := ⟨_, rfl⟩
        rw [← eL92]
        have gL92_0 : jGet L92 0 = some (.ref 66) := eL92 ▸ jg_ne (by decide) gL14_0 rfl
        have gL92_1 : jGet L92 1 = some (.int (i32 (c))) := eL92 ▸ jg_ne (by decide) gL14_1 rfl
        have gL92_2 : jGet L92 2 = some (.int (i32 (r9))) := eL92 ▸ jg_ne (by decide) gL14_2 rfl
        have gL92_3 : jGet L92 3 = some (.int (i32 (1))) := eL92 ▸ jg_eq
        refine jx_ld (pc' := 38) (l' := L92) (st' := [.ref 66]) rfl (jl_aloadn gL92_0) ?_
        refine jx_ld (pc' := 39) (l' := L92) (st' := [.int (i32 (r9)), .ref 66]) rfl (jl_iloadn gL92_2) ?_
        refine jx_if_gt (pc' := 42) (tg := 46) rfl rfl rfl (by omega) (by omega) (fun h93 => ?_) (fun h93 => ?_)
        · have _q := h93
          refine jx_ar (pc' := 47) (st' := [.int (i32 (4)), .ref 66]) rfl rfl rfl rfl ?_
          refine jx_go (tg := 51) rfl rfl ?_
          refine jr_put (pc' := 54) (i := 11) (z := 4) rfl rfl (by decide) rfl rfl rfl rfl rfl rfl ?_
          have hW94 : Wk (uG G 11 (4)) A := Wk_g hW (show (0 : Int) ≤ 4 by omega) (show 4 ≤ (5 : Int) by omega)
          have hF95 := Fr_g (z := 4) (i := 11) hF0 (by decide)
          refine jx_ld (pc' := 55) (l' := L92) (st' := [.ref 66]) rfl (jl_aloadn gL92_0) ?_
          refine jx_ld (pc' := 56) (l' := L92) (st' := [.int (i32 (r9)), .ref 66]) rfl (jl_iloadn gL92_2) ?_
          refine jx_if_le (pc' := 59) (tg := 63) rfl rfl rfl (by omega) (by omega) (fun h96 => ?_) (fun h96 => ?_)
          · have _q := h96
            refine jx_ld (pc' := 64) (l' := L92) (st' := [.int (i32 (c)), .ref 66]) rfl (jl_iloadn gL92_1) ?_
            refine jr_put (pc' := 67) (i := 13) (z := c) rfl rfl (by decide) rfl rfl rfl rfl rfl rfl ?_
            have hW97 : Wk (uG (uG G 11 (4)) 13 (c)) A := Wk_g hW94 (show (-2147483648 : Int) ≤ c by omega) (show c ≤ (2147483647 : Int) by omega)
            have hF98 := Fr_g (z := c) (i := 13) hF95 (by decide)
            refine jx_ld (pc' := 68) (l' := L92) (st' := [.ref 66]) rfl (jl_aloadn gL92_0) ?_
            refine jx_ld (pc' := 69) (l' := L92) (st' := [.int (i32 (r9)), .ref 66]) rfl (jl_iloadn gL92_2) ?_
            refine jx_if_le (pc' := 72) (tg := 81) rfl rfl rfl (by omega) (by omega) (fun h99 => ?_) (fun h99 => ?_)
            · have _q := h99
              refine jx_ld (pc' := 82) (l' := L92) (st' := [.ref 66, .ref 66]) rfl (jl_aloadn gL92_0) ?_
              refine jr_get (pc' := 85) (i := 10) (v := .int (i32 (at0))) rfl rfl (by decide) (rFv_eq (by decide) (show (uG (uG G 11 (4)) 13 (c)) 10 = at0 from (e_at0))) rfl ?_
              refine jx_ar (pc' := 86) (st' := [.int (i32 (1)), .int (i32 (at0)), .ref 66]) rfl rfl rfl rfl ?_
              refine jx_add (pc' := 87) rfl rfl ?_
              refine jr_put (pc' := 90) (i := 10) (z := (at0 + 1)) rfl rfl (by decide) rfl rfl rfl rfl rfl rfl ?_
              have hW100 : Wk (uG (uG (uG G 11 (4)) 13 (c)) 10 ((at0 + 1))) A := Wk_g hW97 (show (0 : Int) ≤ (at0 + 1) by omega) (show (at0 + 1) ≤ (3002 : Int) by omega)
              have hF101 := Fr_g (z := (at0 + 1)) (i := 10) hF98 (by decide)
              refine jx_rt (v := none) rfl rfl rfl rfl rfl rfl ?_
              exact ⟨_, _, (at0 + 1), 4, rfl, rfl, hW100, hF101, rfl, rfl, by omega, by omega, by omega, trivial⟩
            · have _q := h99
              refine jx_ld (pc' := 73) (l' := L92) (st' := [.ref 66, .ref 66]) rfl (jl_aloadn gL92_0) ?_
              refine jr_get (pc' := 76) (i := 10) (v := .int (i32 (at0))) rfl rfl (by decide) (rFv_eq (by decide) (show (uG (uG G 11 (4)) 13 (c)) 10 = at0 from (e_at0))) rfl ?_
              refine jx_ar (pc' := 77) (st' := [.int (i32 (2)), .int (i32 (at0)), .ref 66]) rfl rfl rfl rfl ?_
              refine jx_add (pc' := 78) rfl rfl ?_
              refine jx_go (tg := 87) rfl rfl ?_
              refine jr_put (pc' := 90) (i := 10) (z := (at0 + 2)) rfl rfl (by decide) rfl rfl rfl rfl rfl rfl ?_
              have hW102 : Wk (uG (uG (uG G 11 (4)) 13 (c)) 10 ((at0 + 2))) A := Wk_g hW97 (show (0 : Int) ≤ (at0 + 2) by omega) (show (at0 + 2) ≤ (3002 : Int) by omega)
              have hF103 := Fr_g (z := (at0 + 2)) (i := 10) hF98 (by decide)
              refine jx_rt (v := none) rfl rfl rfl rfl rfl rfl ?_
              exact ⟨_, _, (at0 + 2), 4, rfl, rfl, hW102, hF103, rfl, rfl, by omega, by omega, by omega, trivial⟩
          · have _q := h96
            refine jx_ld (pc' := 60) (l' := L92) (st' := [.int (i32 (r9)), .ref 66]) rfl (jl_iloadn gL92_2) ?_
            refine jx_go (tg := 64) rfl rfl ?_
            refine jr_put (pc' := 67) (i := 13) (z := r9) rfl rfl (by decide) rfl rfl rfl rfl rfl rfl ?_
            have hW104 : Wk (uG (uG G 11 (4)) 13 (r9)) A := Wk_g hW94 (show (-2147483648 : Int) ≤ r9 by omega) (show r9 ≤ (2147483647 : Int) by omega)
            have hF105 := Fr_g (z := r9) (i := 13) hF95 (by decide)
            refine jx_ld (pc' := 68) (l' := L92) (st' := [.ref 66]) rfl (jl_aloadn gL92_0) ?_
            refine jx_ld (pc' := 69) (l' := L92) (st' := [.int (i32 (r9)), .ref 66]) rfl (jl_iloadn gL92_2) ?_
            refine jx_if_le (pc' := 72) (tg := 81) rfl rfl rfl (by omega) (by omega) (fun h106 => ?_) (fun h106 => ?_)
            · have _q := h106
              refine jx_ld (pc' := 82) (l' := L92) (st' := [.ref 66, .ref 66]) rfl (jl_aloadn gL92_0) ?_
              refine jr_get (pc' := 85) (i := 10) (v := .int (i32 (at0))) rfl rfl (by decide) (rFv_eq (by decide) (show (uG (uG G 11 (4)) 13 (r9)) 10 = at0 from (e_at0))) rfl ?_
              refine jx_ar (pc' := 86) (st' := [.int (i32 (1)), .int (i32 (at0)), .ref 66]) rfl rfl rfl rfl ?_
              refine jx_add (pc' := 87) rfl rfl ?_
              refine jr_put (pc' := 90) (i := 10) (z := (at0 + 1)) rfl rfl (by decide) rfl rfl rfl rfl rfl rfl ?_
              have hW107 : Wk (uG (uG (uG G 11 (4)) 13 (r9)) 10 ((at0 + 1))) A := Wk_g hW104 (show (0 : Int) ≤ (at0 + 1) by omega) (show (at0 + 1) ≤ (3002 : Int) by omega)
              have hF108 := Fr_g (z := (at0 + 1)) (i := 10) hF105 (by decide)
              refine jx_rt (v := none) rfl rfl rfl rfl rfl rfl ?_
              exact ⟨_, _, (at0 + 1), 4, rfl, rfl, hW107, hF108, rfl, rfl, by omega, by omega, by omega, trivial⟩
            · have _q := h106
              refine jx_ld (pc' := 73) (l' := L92) (st' := [.ref 66, .ref 66]) rfl (jl_aloadn gL92_0) ?_
              refine jr_get (pc' := 76) (i := 10) (v := .int (i32 (at0))) rfl rfl (by decide) (rFv_eq (by decide) (show (uG (uG G 11 (4)) 13 (r9)) 10 = at0 from (e_at0))) rfl ?_
              refine jx_ar (pc' := 77) (st' := [.int (i32 (2)), .int (i32 (at0)), .ref 66]) rfl rfl rfl rfl ?_
              refine jx_add (pc' := 78) rfl rfl ?_
              refine jx_go (tg := 87) rfl rfl ?_
              refine jr_put (pc' := 90) (i := 10) (z := (at0 + 2)) rfl rfl (by decide) rfl rfl rfl rfl rfl rfl ?_
              have hW109 : Wk (uG (uG (uG G 11 (4)) 13 (r9)) 10 ((at0 + 2))) A := Wk_g hW104 (show (0 : Int) ≤ (at0 + 2) by omega) (show (at0 + 2) ≤ (3002 : Int) by omega)
              have hF110 := Fr_g (z := (at0 + 2)) (i := 10) hF105 (by decide)
              refine jx_rt (v := none) rfl rfl rfl rfl rfl rfl ?_
              exact ⟨_, _, (at0 + 2), 4, rfl, rfl, hW109, hF110, rfl, rfl, by omega, by omega, by omega, trivial⟩
        · have _q := h93
          refine jx_ld (pc' := 43) (l' := L92) (st' := [.int (i32 (1)), .ref 66]) rfl (jl_iloadn gL92_3) ?_
          refine jx_if_eq (pc' := 46) (tg := 50) rfl rfl rfl (by omega) (by omega) (fun h111 => ?_) (fun h111 => ?_)
          · have _q := h111
            exact absurd h111 (by omega)
          · have _q := h111
            refine jx_ar (pc' := 47) (st' := [.int (i32 (4)), .ref 66]) rfl rfl rfl rfl ?_
            refine jx_go (tg := 51) rfl rfl ?_
            refine jr_put (pc' := 54) (i := 11) (z := 4) rfl rfl (by decide) rfl rfl rfl rfl rfl rfl ?_
            have hW112 : Wk (uG G 11 (4)) A := Wk_g hW (show (0 : Int) ≤ 4 by omega) (show 4 ≤ (5 : Int) by omega)
            have hF113 := Fr_g (z := 4) (i := 11) hF0 (by decide)
            refine jx_ld (pc' := 55) (l' := L92) (st' := [.ref 66]) rfl (jl_aloadn gL92_0) ?_
            refine jx_ld (pc' := 56) (l' := L92) (st' := [.int (i32 (r9)), .ref 66]) rfl (jl_iloadn gL92_2) ?_
            refine jx_if_le (pc' := 59) (tg := 63) rfl rfl rfl (by omega) (by omega) (fun h114 => ?_) (fun h114 => ?_)
            · have _q := h114
              refine jx_ld (pc' := 64) (l' := L92) (st' := [.int (i32 (c)), .ref 66]) rfl (jl_iloadn gL92_1) ?_
              refine jr_put (pc' := 67) (i := 13) (z := c) rfl rfl (by decide) rfl rfl rfl rfl rfl rfl ?_
              have hW115 : Wk (uG (uG G 11 (4)) 13 (c)) A := Wk_g hW112 (show (-2147483648 : Int) ≤ c by omega) (show c ≤ (2147483647 : Int) by omega)
              have hF116 := Fr_g (z := c) (i := 13) hF113 (by decide)
              refine jx_ld (pc' := 68) (l' := L92) (st' := [.ref 66]) rfl (jl_aloadn gL92_0) ?_
              refine jx_ld (pc' := 69) (l' := L92) (st' := [.int (i32 (r9)), .ref 66]) rfl (jl_iloadn gL92_2) ?_
              refine jx_if_le (pc' := 72) (tg := 81) rfl rfl rfl (by omega) (by omega) (fun h117 => ?_) (fun h117 => ?_)
              · have _q := h117
                refine jx_ld (pc' := 82) (l' := L92) (st' := [.ref 66, .ref 66]) rfl (jl_aloadn gL92_0) ?_
                refine jr_get (pc' := 85) (i := 10) (v := .int (i32 (at0))) rfl rfl (by decide) (rFv_eq (by decide) (show (uG (uG G 11 (4)) 13 (c)) 10 = at0 from (e_at0))) rfl ?_
                refine jx_ar (pc' := 86) (st' := [.int (i32 (1)), .int (i32 (at0)), .ref 66]) rfl rfl rfl rfl ?_
                refine jx_add (pc' := 87) rfl rfl ?_
                refine jr_put (pc' := 90) (i := 10) (z := (at0 + 1)) rfl rfl (by decide) rfl rfl rfl rfl rfl rfl ?_
                have hW118 : Wk (uG (uG (uG G 11 (4)) 13 (c)) 10 ((at0 + 1))) A := Wk_g hW115 (show (0 : Int) ≤ (at0 + 1) by omega) (show (at0 + 1) ≤ (3002 : Int) by omega)
                have hF119 := Fr_g (z := (at0 + 1)) (i := 10) hF116 (by decide)
                refine jx_rt (v := none) rfl rfl rfl rfl rfl rfl ?_
                exact ⟨_, _, (at0 + 1), 4, rfl, rfl, hW118, hF119, rfl, rfl, by omega, by omega, by omega, trivial⟩
              · have _q := h117
                refine jx_ld (pc' := 73) (l' := L92) (st' := [.ref 66, .ref 66]) rfl (jl_aloadn gL92_0) ?_
                refine jr_get (pc' := 76) (i := 10) (v := .int (i32 (at0))) rfl rfl (by decide) (rFv_eq (by decide) (show (uG (uG G 11 (4)) 13 (c)) 10 = at0 from (e_at0))) rfl ?_
                refine jx_ar (pc' := 77) (st' := [.int (i32 (2)), .int (i32 (at0)), .ref 66]) rfl rfl rfl rfl ?_
                refine jx_add (pc' := 78) rfl rfl ?_
                refine jx_go (tg := 87) rfl rfl ?_
                refine jr_put (pc' := 90) (i := 10) (z := (at0 + 2)) rfl rfl (by decide) rfl rfl rfl rfl rfl rfl ?_
                have hW120 : Wk (uG (uG (uG G 11 (4)) 13 (c)) 10 ((at0 + 2))) A := Wk_g hW115 (show (0 : Int) ≤ (at0 + 2) by omega) (show (at0 + 2) ≤ (3002 : Int) by omega)
                have hF121 := Fr_g (z := (at0 + 2)) (i := 10) hF116 (by decide)
                refine jx_rt (v := none) rfl rfl rfl rfl rfl rfl ?_
                exact ⟨_, _, (at0 + 2), 4, rfl, rfl, hW120, hF121, rfl, rfl, by omega, by omega, by omega, trivial⟩
            · have _q := h114
              refine jx_ld (pc' := 60) (l' := L92) (st' := [.int (i32 (r9)), .ref 66]) rfl (jl_iloadn gL92_2) ?_
              refine jx_go (tg := 64) rfl rfl ?_
              refine jr_put (pc' := 67) (i := 13) (z := r9) rfl rfl (by decide) rfl rfl rfl rfl rfl rfl ?_
              have hW122 : Wk (uG (uG G 11 (4)) 13 (r9)) A := Wk_g hW112 (show (-2147483648 : Int) ≤ r9 by omega) (show r9 ≤ (2147483647 : Int) by omega)
              have hF123 := Fr_g (z := r9) (i := 13) hF113 (by decide)
              refine jx_ld (pc' := 68) (l' := L92) (st' := [.ref 66]) rfl (jl_aloadn gL92_0) ?_
              refine jx_ld (pc' := 69) (l' := L92) (st' := [.int (i32 (r9)), .ref 66]) rfl (jl_iloadn gL92_2) ?_
              refine jx_if_le (pc' := 72) (tg := 81) rfl rfl rfl (by omega) (by omega) (fun h124 => ?_) (fun h124 => ?_)
              · have _q := h124
                refine jx_ld (pc' := 82) (l' := L92) (st' := [.ref 66, .ref 66]) rfl (jl_aloadn gL92_0) ?_
                refine jr_get (pc' := 85) (i := 10) (v := .int (i32 (at0))) rfl rfl (by decide) (rFv_eq (by decide) (show (uG (uG G 11 (4)) 13 (r9)) 10 = at0 from (e_at0))) rfl ?_
                refine jx_ar (pc' := 86) (st' := [.int (i32 (1)), .int (i32 (at0)), .ref 66]) rfl rfl rfl rfl ?_
                refine jx_add (pc' := 87) rfl rfl ?_
                refine jr_put (pc' := 90) (i := 10) (z := (at0 + 1)) rfl rfl (by decide) rfl rfl rfl rfl rfl rfl ?_
                have hW125 : Wk (uG (uG (uG G 11 (4)) 13 (r9)) 10 ((at0 + 1))) A := Wk_g hW122 (show (0 : Int) ≤ (at0 + 1) by omega) (show (at0 + 1) ≤ (3002 : Int) by omega)
                have hF126 := Fr_g (z := (at0 + 1)) (i := 10) hF123 (by decide)
                refine jx_rt (v := none) rfl rfl rfl rfl rfl rfl ?_
                exact ⟨_, _, (at0 + 1), 4, rfl, rfl, hW125, hF126, rfl, rfl, by omega, by omega, by omega, trivial⟩
              · have _q := h124
                refine jx_ld (pc' := 73) (l' := L92) (st' := [.ref 66, .ref 66]) rfl (jl_aloadn gL92_0) ?_
                refine jr_get (pc' := 76) (i := 10) (v := .int (i32 (at0))) rfl rfl (by decide) (rFv_eq (by decide) (show (uG (uG G 11 (4)) 13 (r9)) 10 = at0 from (e_at0))) rfl ?_
                refine jx_ar (pc' := 77) (st' := [.int (i32 (2)), .int (i32 (at0)), .ref 66]) rfl rfl rfl rfl ?_
                refine jx_add (pc' := 78) rfl rfl ?_
                refine jx_go (tg := 87) rfl rfl ?_
                refine jr_put (pc' := 90) (i := 10) (z := (at0 + 2)) rfl rfl (by decide) rfl rfl rfl rfl rfl rfl ?_
                have hW127 : Wk (uG (uG (uG G 11 (4)) 13 (r9)) 10 ((at0 + 2))) A := Wk_g hW122 (show (0 : Int) ≤ (at0 + 2) by omega) (show (at0 + 2) ≤ (3002 : Int) by omega)
                have hF128 := Fr_g (z := (at0 + 2)) (i := 10) hF123 (by decide)
                refine jx_rt (v := none) rfl rfl rfl rfl rfl rfl ?_
                exact ⟨_, _, (at0 + 2), 4, rfl, rfl, hW127, hF128, rfl, rfl, by omega, by omega, by omega, trivial⟩
  · have _q : True := trivial
    refine jx_st (pc' := 14) (as := [.int (i32 (c)), .int (i32 (r2))]) (st := []) rfl rfl ⟨rfl, Nat.le_of_ble_eq_true rfl⟩ rfl rfl rfl (c_pair (dd := d) (hd := by omega) (c := c) (e := r2)   (h_c := by omega) (h_e := by omega)  ) (fun o V' hq => ?_)
    obtain ⟨r129, rfl, rfl, b130, p131, p132, -⟩ := hq
    refine .inr ⟨_, rfl, ?_⟩
    refine jx_ld (pc' := 15) (l' := jSto1 [(0, .ref 66), (1, .int (i32 (c)))] 2 (.int (i32 (r129)))) (st' := []) rfl rfl ?_
    obtain ⟨L134, eL134⟩ : ∃ q, q = jSto1 [(0, .ref 66), (1, .int (i32 (c)))] 2 (.int (i32 (r129))) := ⟨_, rfl⟩
    rw [← eL134]
    have gL134_0 : jGet L134 0 = some (.ref 66) := eL134 ▸ jg_ne (by decide) (rfl : jGet [(0, .ref 66), (1, .int (i32 (c)))] 0 = some (.ref 66)) rfl
    have gL134_1 : jGet L134 1 = some (.int (i32 (c))) := eL134 ▸ jg_ne (by decide) (rfl : jGet [(0, .ref 66), (1, .int (i32 (c)))] 1 = some (.int (i32 (c)))) rfl
    have gL134_2 : jGet L134 2 = some (.int (i32 (r129))) := eL134 ▸ jg_eq
    refine jx_hp (pc' := 18) (st' := [.ref 30]) rfl rfl rfl rfl rfl rfl ?_
    refine jx_ld (pc' := 19) (l' := L134) (st' := [.int (i32 (c)), .ref 30]) rfl (jl_iloadn gL134_1) ?_
    refine jx_si (pc' := 22) rfl rfl rfl ⟨Nat.le_of_ble_eq_true rfl, (by decide)⟩ (by omega) (by omega) rfl (fun r135 hr135 => ?_)
    refine jx_if_ge (pc' := 25) (tg := 31) rfl rfl rfl (by omega) (by omega) (fun h136 => ?_) (fun h136 => ?_)
    · have _q := h136
      refine jx_ar (pc' := 32) (st' := [.int (i32 (1))]) rfl rfl rfl rfl ?_
      refine jx_go (tg := 36) rfl rfl ?_
      refine jx_ld (pc' := 37) (l' := jSto1 L134 3 (.int (i32 (1)))) (st' := []) rfl rfl ?_
      obtain ⟨L137, eL137⟩ : ∃ q, q = jSto1 L134 3 (.int (i32 (1))) := ⟨_, rfl⟩
      rw [← eL137]
      have gL137_0 : jGet L137 0 = some (.ref 66) := eL137 ▸ jg_ne (by decide) gL134_0 rfl
      have gL137_1 : jGet L137 1 = some (.int (i32 (c))) := eL137 ▸ jg_ne (by decide) gL134_1 rfl
      have gL137_2 : jGet L137 2 = some (.int (i32 (r129))) := eL137 ▸ jg_ne (by decide) gL134_2 rfl
      have gL137_3 : jGet L137 3 = some (.int (i32 (1))) := eL137 ▸ jg_eq
      refine jx_ld (pc' := 38) (l' := L137) (st' := [.ref 66]) rfl (jl_aloadn gL137_0) ?_
      refine jx_ld (pc' := 39) (l' := L137) (st' := [.int (i32 (r129)), .ref 66]) rfl (jl_iloadn gL137_2) ?_
      refine jx_if_gt (pc' := 42) (tg := 46) rfl rfl rfl (by omega) (by omega) (fun h138 => ?_) (fun h138 => ?_)
      · have _q := h138
        refine jx_ar (pc' := 47) (st' := [.int (i32 (4)), .ref 66]) rfl rfl rfl rfl ?_
        refine jx_go (tg := 51) rfl rfl ?_
        refine jr_put (pc' := 54) (i := 11) (z := 4) rfl rfl (by decide) rfl rfl rfl rfl rfl rfl ?_
        have hW139 : Wk (uG G 11 (4)) A := Wk_g hW (show (0 : Int) ≤ 4 by omega) (show 4 ≤ (5 : Int) by omega)
        have hF140 := Fr_g (z := 4) (i := 11) hF0 (by decide)
        refine jx_ld (pc' := 55) (l' := L137) (st' := [.ref 66]) rfl (jl_aloadn gL137_0) ?_
        refine jx_ld (pc' := 56) (l' := L137) (st' := [.int (i32 (r129)), .ref 66]) rfl (jl_iloadn gL137_2) ?_
        refine jx_if_le (pc' := 59) (tg := 63) rfl rfl rfl (by omega) (by omega) (fun h141 => ?_) (fun h141 => ?_)
        · have _q := h141
          refine jx_ld (pc' := 64) (l' := L137) (st' := [.int (i32 (c)), .ref 66]) rfl (jl_iloadn gL137_1) ?_
          refine jr_put (pc' := 67) (i := 13) (z := c) rfl rfl (by decide) rfl rfl rfl rfl rfl rfl ?_
          have hW142 : Wk (uG (uG G 11 (4)) 13 (c)) A := Wk_g hW139 (show (-2147483648 : Int) ≤ c by omega) (show c ≤ (2147483647 : Int) by omega)
          have hF143 := Fr_g (z := c) (i := 13) hF140 (by decide)
          refine jx_ld (pc' := 68) (l' := L137) (st' := [.ref 66]) rfl (jl_aloadn gL137_0) ?_
          refine jx_ld (pc' := 69) (l' := L137) (st' := [.int (i32 (r129)), .ref 66]) rfl (jl_iloadn gL137_2) ?_
          refine jx_if_le (pc' := 72) (tg := 81) rfl rfl rfl (by omega) (by omega) (fun h144 => ?_) (fun h144 => ?_)
          · have _q := h144
            refine jx_ld (pc' := 82) (l' := L137) (st' := [.ref 66, .ref 66]) rfl (jl_aloadn gL137_0) ?_
            refine jr_get (pc' := 85) (i := 10) (v := .int (i32 (at0))) rfl rfl (by decide) (rFv_eq (by decide) (show (uG (uG G 11 (4)) 13 (c)) 10 = at0 from (e_at0))) rfl ?_
            refine jx_ar (pc' := 86) (st' := [.int (i32 (1)), .int (i32 (at0)), .ref 66]) rfl rfl rfl rfl ?_
            refine jx_add (pc' := 87) rfl rfl ?_
            refine jr_put (pc' := 90) (i := 10) (z := (at0 + 1)) rfl rfl (by decide) rfl rfl rfl rfl rfl rfl ?_
            have hW145 : Wk (uG (uG (uG G 11 (4)) 13 (c)) 10 ((at0 + 1))) A := Wk_g hW142 (show (0 : Int) ≤ (at0 + 1) by omega) (show (at0 + 1) ≤ (3002 : Int) by omega)
            have hF146 := Fr_g (z := (at0 + 1)) (i := 10) hF143 (by decide)
            refine jx_rt (v := none) rfl rfl rfl rfl rfl rfl ?_
            exact ⟨_, _, (at0 + 1), 4, rfl, rfl, hW145, hF146, rfl, rfl, by omega, by omega, by omega, trivial⟩
          · have _q := h144
            refine jx_ld (pc' := 73) (l' := L137) (st' := [.ref 66, .ref 66]) rfl (jl_aloadn gL137_0) ?_
            refine jr_get (pc' := 76) (i := 10) (v := .int (i32 (at0))) rfl rfl (by decide) (rFv_eq (by decide) (show (uG (uG G 11 (4)) 13 (c)) 10 = at0 from (e_at0))) rfl ?_
            refine jx_ar (pc' := 77) (st' := [.int (i32 (2)), .int (i32 (at0)), .ref 66]) rfl rfl rfl rfl ?_
            refine jx_add (pc' := 78) rfl rfl ?_
            refine jx_go (tg := 87) rfl rfl ?_
            refine jr_put (pc' := 90) (i := 10) (z := (at0 + 2)) rfl rfl (by decide) rfl rfl rfl rfl rfl rfl ?_
            have hW147 : Wk (uG (uG (uG G 11 (4)) 13 (c)) 10 ((at0 + 2))) A := Wk_g hW142 (show (0 : Int) ≤ (at0 + 2) by omega) (show (at0 + 2) ≤ (3002 : Int) by omega)
            have hF148 := Fr_g (z := (at0 + 2)) (i := 10) hF143 (by decide)
            refine jx_rt (v := none) rfl rfl rfl rfl rfl rfl ?_
            exact ⟨_, _, (at0 + 2), 4, rfl, rfl, hW147, hF148, rfl, rfl, by omega, by omega, by omega, trivial⟩
        · have _q := h141
          refine jx_ld (pc' := 60) (l' := L137) (st' := [.int (i32 (r129)), .ref 66]) rfl (jl_iloadn gL137_2) ?_
          refine jx_go (tg := 64) rfl rfl ?_
          refine jr_put (pc' := 67) (i := 13) (z := r129) rfl rfl (by decide) rfl rfl rfl rfl rfl rfl ?_
          have hW149 : Wk (uG (uG G 11 (4)) 13 (r129)) A := Wk_g hW139 (show (-2147483648 : Int) ≤ r129 by omega) (show r129 ≤ (2147483647 : Int) by omega)
          have hF150 := Fr_g (z := r129) (i := 13) hF140 (by decide)
          refine jx_ld (pc' := 68) (l' := L137) (st' := [.ref 66]) rfl (jl_aloadn gL137_0) ?_
          refine jx_ld (pc' := 69) (l' := L137) (st' := [.int (i32 (r129)), .ref 66]) rfl (jl_iloadn gL137_2) ?_
          refine jx_if_le (pc' := 72) (tg := 81) rfl rfl rfl (by omega) (by omega) (fun h151 => ?_) (fun h151 => ?_)
          · have _q := h151
            refine jx_ld (pc' := 82) (l' := L137) (st' := [.ref 66, .ref 66]) rfl (jl_aloadn gL137_0) ?_
            refine jr_get (pc' := 85) (i := 10) (v := .int (i32 (at0))) rfl rfl (by decide) (rFv_eq (by decide) (show (uG (uG G 11 (4)) 13 (r129)) 10 = at0 from (e_at0))) rfl ?_
            refine jx_ar (pc' := 86) (st' := [.int (i32 (1)), .int (i32 (at0)), .ref 66]) rfl rfl rfl rfl ?_
            refine jx_add (pc' := 87) rfl rfl ?_
            refine jr_put (pc' := 90) (i := 10) (z := (at0 + 1)) rfl rfl (by decide) rfl rfl rfl rfl rfl rfl ?_
            have hW152 : Wk (uG (uG (uG G 11 (4)) 13 (r129)) 10 ((at0 + 1))) A := Wk_g hW149 (show (0 : Int) ≤ (at0 + 1) by omega) (show (at0 + 1) ≤ (3002 : Int) by omega)
            have hF153 := Fr_g (z := (at0 + 1)) (i := 10) hF150 (by decide)
            refine jx_rt (v := none) rfl rfl rfl rfl rfl rfl ?_
            exact ⟨_, _, (at0 + 1), 4, rfl, rfl, hW152, hF153, rfl, rfl, by omega, by omega, by omega, trivial⟩
          · have _q := h151
            refine jx_ld (pc' := 73) (l' := L137) (st' := [.ref 66, .ref 66]) rfl (jl_aloadn gL137_0) ?_
            refine jr_get (pc' := 76) (i := 10) (v := .int (i32 (at0))) rfl rfl (by decide) (rFv_eq (by decide) (show (uG (uG G 11 (4)) 13 (r129)) 10 = at0 from (e_at0))) rfl ?_
            refine jx_ar (pc' := 77) (st' := [.int (i32 (2)), .int (i32 (at0)), .ref 66]) rfl rfl rfl rfl ?_
            refine jx_add (pc' := 78) rfl rfl ?_
            refine jx_go (tg := 87) rfl rfl ?_
            refine jr_put (pc' := 90) (i := 10) (z := (at0 + 2)) rfl rfl (by decide) rfl rfl rfl rfl rfl rfl ?_
            have hW154 : Wk (uG (uG (uG G 11 (4)) 13 (r129)) 10 ((at0 + 2))) A := Wk_g hW149 (show (0 : Int) ≤ (at0 + 2) by omega) (show (at0 + 2) ≤ (3002 : Int) by omega)
            have hF155 := Fr_g (z := (at0 + 2)) (i := 10) hF150 (by decide)
            refine jx_rt (v := none) rfl rfl rfl rfl rfl rfl ?_
            exact ⟨_, _, (at0 + 2), 4, rfl, rfl, hW154, hF155, rfl, rfl, by omega, by omega, by omega, trivial⟩
      · have _q := h138
        refine jx_ld (pc' := 43) (l' := L137) (st' := [.int (i32 (1)), .ref 66]) rfl (jl_iloadn gL137_3) ?_
        refine jx_if_eq (pc' := 46) (tg := 50) rfl rfl rfl (by omega) (by omega) (fun h156 => ?_) (fun h156 => ?_)
        · have _q := h156
          exact absurd h156 (by omega)
        · have _q := h156
          refine jx_ar (pc' := 47) (st' := [.int (i32 (4)), .ref 66]) rfl rfl rfl rfl ?_
          refine jx_go (tg := 51) rfl rfl ?_
          refine jr_put (pc' := 54) (i := 11) (z := 4) rfl rfl (by decide) rfl rfl rfl rfl rfl rfl ?_
          have hW157 : Wk (uG G 11 (4)) A := Wk_g hW (show (0 : Int) ≤ 4 by omega) (show 4 ≤ (5 : Int) by omega)
          have hF158 := Fr_g (z := 4) (i := 11) hF0 (by decide)
          refine jx_ld (pc' := 55) (l' := L137) (st' := [.ref 66]) rfl (jl_aloadn gL137_0) ?_
          refine jx_ld (pc' := 56) (l' := L137) (st' := [.int (i32 (r129)), .ref 66]) rfl (jl_iloadn gL137_2) ?_
          refine jx_if_le (pc' := 59) (tg := 63) rfl rfl rfl (by omega) (by omega) (fun h159 => ?_) (fun h159 => ?_)
          · have _q := h159
            refine jx_ld (pc' := 64) (l' := L137) (st' := [.int (i32 (c)), .ref 66]) rfl (jl_iloadn gL137_1) ?_
            refine jr_put (pc' := 67) (i := 13) (z := c) rfl rfl (by decide) rfl rfl rfl rfl rfl rfl ?_
            have hW160 : Wk (uG (uG G 11 (4)) 13 (c)) A := Wk_g hW157 (show (-2147483648 : Int) ≤ c by omega) (show c ≤ (2147483647 : Int) by omega)
            have hF161 := Fr_g (z := c) (i := 13) hF158 (by decide)
            refine jx_ld (pc' := 68) (l' := L137) (st' := [.ref 66]) rfl (jl_aloadn gL137_0) ?_
            refine jx_ld (pc' := 69) (l' := L137) (st' := [.int (i32 (r129)), .ref 66]) rfl (jl_iloadn gL137_2) ?_
            refine jx_if_le (pc' := 72) (tg := 81) rfl rfl rfl (by omega) (by omega) (fun h162 => ?_) (fun h162 => ?_)
            · have _q := h162
              refine jx_ld (pc' := 82) (l' := L137) (st' := [.ref 66, .ref 66]) rfl (jl_aloadn gL137_0) ?_
              refine jr_get (pc' := 85) (i := 10) (v := .int (i32 (at0))) rfl rfl (by decide) (rFv_eq (by decide) (show (uG (uG G 11 (4)) 13 (c)) 10 = at0 from (e_at0))) rfl ?_
              refine jx_ar (pc' := 86) (st' := [.int (i32 (1)), .int (i32 (at0)), .ref 66]) rfl rfl rfl rfl ?_
              refine jx_add (pc' := 87) rfl rfl ?_
              refine jr_put (pc' := 90) (i := 10) (z := (at0 + 1)) rfl rfl (by decide) rfl rfl rfl rfl rfl rfl ?_
              have hW163 : Wk (uG (uG (uG G 11 (4)) 13 (c)) 10 ((at0 + 1))) A := Wk_g hW160 (show (0 : Int) ≤ (at0 + 1) by omega) (show (at0 + 1) ≤ (3002 : Int) by omega)
              have hF164 := Fr_g (z := (at0 + 1)) (i := 10) hF161 (by decide)
              refine jx_rt (v := none) rfl rfl rfl rfl rfl rfl ?_
              exact ⟨_, _, (at0 + 1), 4, rfl, rfl, hW163, hF164, rfl, rfl, by omega, by omega, by omega, trivial⟩
            · have _q := h162
              refine jx_ld (pc' := 73) (l' := L137) (st' := [.ref 66, .ref 66]) rfl (jl_aloadn gL137_0) ?_
              refine jr_get (pc' := 76) (i := 10) (v := .int (i32 (at0))) rfl rfl (by decide) (rFv_eq (by decide) (show (uG (uG G 11 (4)) 13 (c)) 10 = at0 from (e_at0))) rfl ?_
              refine jx_ar (pc' := 77) (st' := [.int (i32 (2)), .int (i32 (at0)), .ref 66]) rfl rfl rfl rfl ?_
              refine jx_add (pc' := 78) rfl rfl ?_
              refine jx_go (tg := 87) rfl rfl ?_
              refine jr_put (pc' := 90) (i := 10) (z := (at0 + 2)) rfl rfl (by decide) rfl rfl rfl rfl rfl rfl ?_
              have hW165 : Wk (uG (uG (uG G 11 (4)) 13 (c)) 10 ((at0 + 2))) A := Wk_g hW160 (show (0 : Int) ≤ (at0 + 2) by omega) (show (at0 + 2) ≤ (3002 : Int) by omega)
              have hF166 := Fr_g (z := (at0 + 2)) (i := 10) hF161 (by decide)
              refine jx_rt (v := none) rfl rfl rfl rfl rfl rfl ?_
              exact ⟨_, _, (at0 + 2), 4, rfl, rfl, hW165, hF166, rfl, rfl, by omega, by omega, by omega, trivial⟩
          · have _q := h159
            refine jx_ld (pc' := 60) (l' := L137) (st' := [.int (i32 (r129)), .ref 66]) rfl (jl_iloadn gL137_2) ?_
            refine jx_go (tg := 64) rfl rfl ?_
            refine jr_put (pc' := 67) (i := 13) (z := r129) rfl rfl (by decide) rfl rfl rfl rfl rfl rfl ?_
            have hW167 : Wk (uG (uG G 11 (4)) 13 (r129)) A := Wk_g hW157 (show (-2147483648 : Int) ≤ r129 by omega) (show r129 ≤ (2147483647 : Int) by omega)
            have hF168 := Fr_g (z := r129) (i := 13) hF158 (by decide)
            refine jx_ld (pc' := 68) (l' := L137) (st' := [.ref 66]) rfl (jl_aloadn gL137_0) ?_
            refine jx_ld (pc' := 69) (l' := L137) (st' := [.int (i32 (r129)), .ref 66]) rfl (jl_iloadn gL137_2) ?_
            refine jx_if_le (pc' := 72) (tg := 81) rfl rfl rfl (by omega) (by omega) (fun h169 => ?_) (fun h169 => ?_)
            · have _q := h169
              refine jx_ld (pc' := 82) (l' := L137) (st' := [.ref 66, .ref 66]) rfl (jl_aloadn gL137_0) ?_
              refine jr_get (pc' := 85) (i := 10) (v := .int (i32 (at0))) rfl rfl (by decide) (rFv_eq (by decide) (show (uG (uG G 11 (4)) 13 (r129)) 10 = at0 from (e_at0))) rfl ?_
              refine jx_ar (pc' := 86) (st' := [.int (i32 (1)), .int (i32 (at0)), .ref 66]) rfl rfl rfl rfl ?_
              refine jx_add (pc' := 87) rfl rfl ?_
              refine jr_put (pc' := 90) (i := 10) (z := (at0 + 1)) rfl rfl (by decide) rfl rfl rfl rfl rfl rfl ?_
              have hW170 : Wk (uG (uG (uG G 11 (4)) 13 (r129)) 10 ((at0 + 1))) A := Wk_g hW167 (show (0 : Int) ≤ (at0 + 1) by omega) (show (at0 + 1) ≤ (3002 : Int) by omega)
              have hF171 := Fr_g (z := (at0 + 1)) (i := 10) hF168 (by decide)
              refine jx_rt (v := none) rfl rfl rfl rfl rfl rfl ?_
              exact ⟨_, _, (at0 + 1), 4, rfl, rfl, hW170, hF171, rfl, rfl, by omega, by omega, by omega, trivial⟩
            · have _q := h169
              refine jx_ld (pc' := 73) (l' := L137) (st' := [.ref 66, .ref 66]) rfl (jl_aloadn gL137_0) ?_
              refine jr_get (pc' := 76) (i := 10) (v := .int (i32 (at0))) rfl rfl (by decide) (rFv_eq (by decide) (show (uG (uG G 11 (4)) 13 (r129)) 10 = at0 from (e_at0))) rfl ?_
              refine jx_ar (pc' := 77) (st' := [.int (i32 (2)), .int (i32 (at0)), .ref 66]) rfl rfl rfl rfl ?_
              refine jx_add (pc' := 78) rfl rfl ?_
              refine jx_go (tg := 87) rfl rfl ?_
              refine jr_put (pc' := 90) (i := 10) (z := (at0 + 2)) rfl rfl (by decide) rfl rfl rfl rfl rfl rfl ?_
              have hW172 : Wk (uG (uG (uG G 11 (4)) 13 (r129)) 10 ((at0 + 2))) A := Wk_g hW167 (show (0 : Int) ≤ (at0 + 2) by omega) (show (at0 + 2) ≤ (3002 : Int) by omega)
              have hF173 := Fr_g (z := (at0 + 2)) (i := 10) hF168 (by decide)
              refine jx_rt (v := none) rfl rfl rfl rfl rfl rfl ?_
              exact ⟨_, _, (at0 + 2), 4, rfl, rfl, hW172, hF173, rfl, rfl, by omega, by omega, by omega, trivial⟩
    · have _q := h136
      refine jx_ld (pc' := 26) (l' := L134) (st' := [.int (i32 (c))]) rfl (jl_iloadn gL134_1) ?_
      refine jx_ar (pc' := 28) (st' := [.int (i32 (92)), .int (i32 (c))]) rfl rfl rfl rfl ?_
      refine jx_icmp_ne (pc' := 31) (tg := 35) rfl rfl rfl (by omega) (by omega) (by omega) (by omega) (fun h174 => ?_) (fun h174 => ?_)
      · have _q := h174
        refine jx_ar (pc' := 36) (st' := [.int (i32 (0))]) rfl rfl rfl rfl ?_
        refine jx_ld (pc' := 37) (l' := jSto1 L134 3 (.int (i32 (0)))) (st' := []) rfl rfl ?_
        obtain ⟨L175, eL175⟩ : ∃ q, q = jSto1 L134 3 (.int (i32 (0))) := ⟨_, rfl⟩
        rw [← eL175]
        have gL175_0 : jGet L175 0 = some (.ref 66) := eL175 ▸ jg_ne (by decide) gL134_0 rfl
        have gL175_1 : jGet L175 1 = some (.int (i32 (c))) := eL175 ▸ jg_ne (by decide) gL134_1 rfl
        have gL175_2 : jGet L175 2 = some (.int (i32 (r129))) := eL175 ▸ jg_ne (by decide) gL134_2 rfl
        have gL175_3 : jGet L175 3 = some (.int (i32 (0))) := eL175 ▸ jg_eq
        refine jx_ld (pc' := 38) (l' := L175) (st' := [.ref 66]) rfl (jl_aloadn gL175_0) ?_
        refine jx_ld (pc' := 39) (l' := L175) (st' := [.int (i32 (r129)), .ref 66]) rfl (jl_iloadn gL175_2) ?_
        refine jx_if_gt (pc' := 42) (tg := 46) rfl rfl rfl (by omega) (by omega) (fun h176 => ?_) (fun h176 => ?_)
        · have _q := h176
          refine jx_ar (pc' := 47) (st' := [.int (i32 (4)), .ref 66]) rfl rfl rfl rfl ?_
          refine jx_go (tg := 51) rfl rfl ?_
          refine jr_put (pc' := 54) (i := 11) (z := 4) rfl rfl (by decide) rfl rfl rfl rfl rfl rfl ?_
          have hW177 : Wk (uG G 11 (4)) A := Wk_g hW (show (0 : Int) ≤ 4 by omega) (show 4 ≤ (5 : Int) by omega)
          have hF178 := Fr_g (z := 4) (i := 11) hF0 (by decide)
          refine jx_ld (pc' := 55) (l' := L175) (st' := [.ref 66]) rfl (jl_aloadn gL175_0) ?_
          refine jx_ld (pc' := 56) (l' := L175) (st' := [.int (i32 (r129)), .ref 66]) rfl (jl_iloadn gL175_2) ?_
          refine jx_if_le (pc' := 59) (tg := 63) rfl rfl rfl (by omega) (by omega) (fun h179 => ?_) (fun h179 => ?_)
          · have _q := h179
            refine jx_ld (pc' := 64) (l' := L175) (st' := [.int (i32 (c)), .ref 66]) rfl (jl_iloadn gL175_1) ?_
            refine jr_put (pc' := 67) (i := 13) (z := c) rfl rfl (by decide) rfl rfl rfl rfl rfl rfl ?_
            have hW180 : Wk (uG (uG G 11 (4)) 13 (c)) A := Wk_g hW177 (show (-2147483648 : Int) ≤ c by omega) (show c ≤ (2147483647 : Int) by omega)
            have hF181 := Fr_g (z := c) (i := 13) hF178 (by decide)
            refine jx_ld (pc' := 68) (l' := L175) (st' := [.ref 66]) rfl (jl_aloadn gL175_0) ?_
            refine jx_ld (pc' := 69) (l' := L175) (st' := [.int (i32 (r129)), .ref 66]) rfl (jl_iloadn gL175_2) ?_
            refine jx_if_le (pc' := 72) (tg := 81) rfl rfl rfl (by omega) (by omega) (fun h182 => ?_) (fun h182 => ?_)
            · have _q := h182
              refine jx_ld (pc' := 82) (l' := L175) (st' := [.ref 66, .ref 66]) rfl (jl_aloadn gL175_0) ?_
              refine jr_get (pc' := 85) (i := 10) (v := .int (i32 (at0))) rfl rfl (by decide) (rFv_eq (by decide) (show (uG (uG G 11 (4)) 13 (c)) 10 = at0 from (e_at0))) rfl ?_
              refine jx_ar (pc' := 86) (st' := [.int (i32 (1)), .int (i32 (at0)), .ref 66]) rfl rfl rfl rfl ?_
              refine jx_add (pc' := 87) rfl rfl ?_
              refine jr_put (pc' := 90) (i := 10) (z := (at0 + 1)) rfl rfl (by decide) rfl rfl rfl rfl rfl rfl ?_
              have hW183 : Wk (uG (uG (uG G 11 (4)) 13 (c)) 10 ((at0 + 1))) A := Wk_g hW180 (show (0 : Int) ≤ (at0 + 1) by omega) (show (at0 + 1) ≤ (3002 : Int) by omega)
              have hF184 := Fr_g (z := (at0 + 1)) (i := 10) hF181 (by decide)
              refine jx_rt (v := none) rfl rfl rfl rfl rfl rfl ?_
              exact ⟨_, _, (at0 + 1), 4, rfl, rfl, hW183, hF184, rfl, rfl, by omega, by omega, by omega, trivial⟩
            · have _q := h182
              refine jx_ld (pc' := 73) (l' := L175) (st' := [.ref 66, .ref 66]) rfl (jl_aloadn gL175_0) ?_
              refine jr_get (pc' := 76) (i := 10) (v := .int (i32 (at0))) rfl rfl (by decide) (rFv_eq (by decide) (show (uG (uG G 11 (4)) 13 (c)) 10 = at0 from (e_at0))) rfl ?_
              refine jx_ar (pc' := 77) (st' := [.int (i32 (2)), .int (i32 (at0)), .ref 66]) rfl rfl rfl rfl ?_
              refine jx_add (pc' := 78) rfl rfl ?_
              refine jx_go (tg := 87) rfl rfl ?_
              refine jr_put (pc' := 90) (i := 10) (z := (at0 + 2)) rfl rfl (by decide) rfl rfl rfl rfl rfl rfl ?_
              have hW185 : Wk (uG (uG (uG G 11 (4)) 13 (c)) 10 ((at0 + 2))) A := Wk_g hW180 (show (0 : Int) ≤ (at0 + 2) by omega) (show (at0 + 2) ≤ (3002 : Int) by omega)
              have hF186 := Fr_g (z := (at0 + 2)) (i := 10) hF181 (by decide)
              refine jx_rt (v := none) rfl rfl rfl rfl rfl rfl ?_
              exact ⟨_, _, (at0 + 2), 4, rfl, rfl, hW185, hF186, rfl, rfl, by omega, by omega, by omega, trivial⟩
          · have _q := h179
            refine jx_ld (pc' := 60) (l' := L175) (st' := [.int (i32 (r129)), .ref 66]) rfl (jl_iloadn gL175_2) ?_
            refine jx_go (tg := 64) rfl rfl ?_
            refine jr_put (pc' := 67) (i := 13) (z := r129) rfl rfl (by decide) rfl rfl rfl rfl rfl rfl ?_
            have hW187 : Wk (uG (uG G 11 (4)) 13 (r129)) A := Wk_g hW177 (show (-2147483648 : Int) ≤ r129 by omega) (show r129 ≤ (2147483647 : Int) by omega)
            have hF188 := Fr_g (z := r129) (i := 13) hF178 (by decide)
            refine jx_ld (pc' := 68) (l' := L175) (st' := [.ref 66]) rfl (jl_aloadn gL175_0) ?_
            refine jx_ld (pc' := 69) (l' := L175) (st' := [.int (i32 (r129)), .ref 66]) rfl (jl_iloadn gL175_2) ?_
            refine jx_if_le (pc' := 72) (tg := 81) rfl rfl rfl (by omega) (by omega) (fun h189 => ?_) (fun h189 => ?_)
            · have _q := h189
              refine jx_ld (pc' := 82) (l' := L175) (st' := [.ref 66, .ref 66]) rfl (jl_aloadn gL175_0) ?_
              refine jr_get (pc' := 85) (i := 10) (v := .int (i32 (at0))) rfl rfl (by decide) (rFv_eq (by decide) (show (uG (uG G 11 (4)) 13 (r129)) 10 = at0 from (e_at0))) rfl ?_
              refine jx_ar (pc' := 86) (st' := [.int (i32 (1)), .int (i32 (at0)), .ref 66]) rfl rfl rfl rfl ?_
              refine jx_add (pc' := 87) rfl rfl ?_
              refine jr_put (pc' := 90) (i := 10) (z := (at0 + 1)) rfl rfl (by decide) rfl rfl rfl rfl rfl rfl ?_
              have hW190 : Wk (uG (uG (uG G 11 (4)) 13 (r129)) 10 ((at0 + 1))) A := Wk_g hW187 (show (0 : Int) ≤ (at0 + 1) by omega) (show (at0 + 1) ≤ (3002 : Int) by omega)
              have hF191 := Fr_g (z := (at0 + 1)) (i := 10) hF188 (by decide)
              refine jx_rt (v := none) rfl rfl rfl rfl rfl rfl ?_
              exact ⟨_, _, (at0 + 1), 4, rfl, rfl, hW190, hF191, rfl, rfl, by omega, by omega, by omega, trivial⟩
            · have _q := h189
              refine jx_ld (pc' := 73) (l' := L175) (st' := [.ref 66, .ref 66]) rfl (jl_aloadn gL175_0) ?_
              refine jr_get (pc' := 76) (i := 10) (v := .int (i32 (at0))) rfl rfl (by decide) (rFv_eq (by decide) (show (uG (uG G 11 (4)) 13 (r129)) 10 = at0 from (e_at0))) rfl ?_
              refine jx_ar (pc' := 77) (st' := [.int (i32 (2)), .int (i32 (at0)), .ref 66]) rfl rfl rfl rfl ?_
              refine jx_add (pc' := 78) rfl rfl ?_
              refine jx_go (tg := 87) rfl rfl ?_
              refine jr_put (pc' := 90) (i := 10) (z := (at0 + 2)) rfl rfl (by decide) rfl rfl rfl rfl rfl rfl ?_
              have hW192 : Wk (uG (uG (uG G 11 (4)) 13 (r129)) 10 ((at0 + 2))) A := Wk_g hW187 (show (0 : Int) ≤ (at0 + 2) by omega) (show (at0 + 2) ≤ (3002 : Int) by omega)
              have hF193 := Fr_g (z := (at0 + 2)) (i := 10) hF188 (by decide)
              refine jx_rt (v := none) rfl rfl rfl rfl rfl rfl ?_
              exact ⟨_, _, (at0 + 2), 4, rfl, rfl, hW192, hF193, rfl, rfl, by omega, by omega, by omega, trivial⟩
        · have _q := h176
          refine jx_ld (pc' := 43) (l' := L175) (st' := [.int (i32 (0)), .ref 66]) rfl (jl_iloadn gL175_3) ?_
          refine jx_if_eq (pc' := 46) (tg := 50) rfl rfl rfl (by omega) (by omega) (fun h194 => ?_) (fun h194 => ?_)
          · have _q := h194
            refine jx_ar (pc' := 51) (st' := [.int (i32 (5)), .ref 66]) rfl rfl rfl rfl ?_
            refine jr_put (pc' := 54) (i := 11) (z := 5) rfl rfl (by decide) rfl rfl rfl rfl rfl rfl ?_
            have hW195 : Wk (uG G 11 (5)) A := Wk_g hW (show (0 : Int) ≤ 5 by omega) (show 5 ≤ (5 : Int) by omega)
            have hF196 := Fr_g (z := 5) (i := 11) hF0 (by decide)
            refine jx_ld (pc' := 55) (l' := L175) (st' := [.ref 66]) rfl (jl_aloadn gL175_0) ?_
            refine jx_ld (pc' := 56) (l' := L175) (st' := [.int (i32 (r129)), .ref 66]) rfl (jl_iloadn gL175_2) ?_
            refine jx_if_le (pc' := 59) (tg := 63) rfl rfl rfl (by omega) (by omega) (fun h197 => ?_) (fun h197 => ?_)
            · have _q := h197
              refine jx_ld (pc' := 64) (l' := L175) (st' := [.int (i32 (c)), .ref 66]) rfl (jl_iloadn gL175_1) ?_
              refine jr_put (pc' := 67) (i := 13) (z := c) rfl rfl (by decide) rfl rfl rfl rfl rfl rfl ?_
              have hW198 : Wk (uG (uG G 11 (5)) 13 (c)) A := Wk_g hW195 (show (-2147483648 : Int) ≤ c by omega) (show c ≤ (2147483647 : Int) by omega)
              have hF199 := Fr_g (z := c) (i := 13) hF196 (by decide)
              refine jx_ld (pc' := 68) (l' := L175) (st' := [.ref 66]) rfl (jl_aloadn gL175_0) ?_
              refine jx_ld (pc' := 69) (l' := L175) (st' := [.int (i32 (r129)), .ref 66]) rfl (jl_iloadn gL175_2) ?_
              refine jx_if_le (pc' := 72) (tg := 81) rfl rfl rfl (by omega) (by omega) (fun h200 => ?_) (fun h200 => ?_)
              · have _q := h200
                refine jx_ld (pc' := 82) (l' := L175) (st' := [.ref 66, .ref 66]) rfl (jl_aloadn gL175_0) ?_
                refine jr_get (pc' := 85) (i := 10) (v := .int (i32 (at0))) rfl rfl (by decide) (rFv_eq (by decide) (show (uG (uG G 11 (5)) 13 (c)) 10 = at0 from (e_at0))) rfl ?_
                refine jx_ar (pc' := 86) (st' := [.int (i32 (1)), .int (i32 (at0)), .ref 66]) rfl rfl rfl rfl ?_
                refine jx_add (pc' := 87) rfl rfl ?_
                refine jr_put (pc' := 90) (i := 10) (z := (at0 + 1)) rfl rfl (by decide) rfl rfl rfl rfl rfl rfl ?_
                have hW201 : Wk (uG (uG (uG G 11 (5)) 13 (c)) 10 ((at0 + 1))) A := Wk_g hW198 (show (0 : Int) ≤ (at0 + 1) by omega) (show (at0 + 1) ≤ (3002 : Int) by omega)
                have hF202 := Fr_g (z := (at0 + 1)) (i := 10) hF199 (by decide)
                refine jx_rt (v := none) rfl rfl rfl rfl rfl rfl ?_
                exact ⟨_, _, (at0 + 1), 5, rfl, rfl, hW201, hF202, rfl, rfl, by omega, by omega, by omega, trivial⟩
              · have _q := h200
                refine jx_ld (pc' := 73) (l' := L175) (st' := [.ref 66, .ref 66]) rfl (jl_aloadn gL175_0) ?_
                refine jr_get (pc' := 76) (i := 10) (v := .int (i32 (at0))) rfl rfl (by decide) (rFv_eq (by decide) (show (uG (uG G 11 (5)) 13 (c)) 10 = at0 from (e_at0))) rfl ?_
                refine jx_ar (pc' := 77) (st' := [.int (i32 (2)), .int (i32 (at0)), .ref 66]) rfl rfl rfl rfl ?_
                refine jx_add (pc' := 78) rfl rfl ?_
                refine jx_go (tg := 87) rfl rfl ?_
                refine jr_put (pc' := 90) (i := 10) (z := (at0 + 2)) rfl rfl (by decide) rfl rfl rfl rfl rfl rfl ?_
                have hW203 : Wk (uG (uG (uG G 11 (5)) 13 (c)) 10 ((at0 + 2))) A := Wk_g hW198 (show (0 : Int) ≤ (at0 + 2) by omega) (show (at0 + 2) ≤ (3002 : Int) by omega)
                have hF204 := Fr_g (z := (at0 + 2)) (i := 10) hF199 (by decide)
                refine jx_rt (v := none) rfl rfl rfl rfl rfl rfl ?_
                exact ⟨_, _, (at0 + 2), 5, rfl, rfl, hW203, hF204, rfl, rfl, by omega, by omega, by omega, trivial⟩
            · have _q := h197
              refine jx_ld (pc' := 60) (l' := L175) (st' := [.int (i32 (r129)), .ref 66]) rfl (jl_iloadn gL175_2) ?_
              refine jx_go (tg := 64) rfl rfl ?_
              refine jr_put (pc' := 67) (i := 13) (z := r129) rfl rfl (by decide) rfl rfl rfl rfl rfl rfl ?_
              have hW205 : Wk (uG (uG G 11 (5)) 13 (r129)) A := Wk_g hW195 (show (-2147483648 : Int) ≤ r129 by omega) (show r129 ≤ (2147483647 : Int) by omega)
              have hF206 := Fr_g (z := r129) (i := 13) hF196 (by decide)
              refine jx_ld (pc' := 68) (l' := L175) (st' := [.ref 66]) rfl (jl_aloadn gL175_0) ?_
              refine jx_ld (pc' := 69) (l' := L175) (st' := [.int (i32 (r129)), .ref 66]) rfl (jl_iloadn gL175_2) ?_
              refine jx_if_le (pc' := 72) (tg := 81) rfl rfl rfl (by omega) (by omega) (fun h207 => ?_) (fun h207 => ?_)
              · have _q := h207
                refine jx_ld (pc' := 82) (l' := L175) (st' := [.ref 66, .ref 66]) rfl (jl_aloadn gL175_0) ?_
                refine jr_get (pc' := 85) (i := 10) (v := .int (i32 (at0))) rfl rfl (by decide) (rFv_eq (by decide) (show (uG (uG G 11 (5)) 13 (r129)) 10 = at0 from (e_at0))) rfl ?_
                refine jx_ar (pc' := 86) (st' := [.int (i32 (1)), .int (i32 (at0)), .ref 66]) rfl rfl rfl rfl ?_
                refine jx_add (pc' := 87) rfl rfl ?_
                refine jr_put (pc' := 90) (i := 10) (z := (at0 + 1)) rfl rfl (by decide) rfl rfl rfl rfl rfl rfl ?_
                have hW208 : Wk (uG (uG (uG G 11 (5)) 13 (r129)) 10 ((at0 + 1))) A := Wk_g hW205 (show (0 : Int) ≤ (at0 + 1) by omega) (show (at0 + 1) ≤ (3002 : Int) by omega)
                have hF209 := Fr_g (z := (at0 + 1)) (i := 10) hF206 (by decide)
                refine jx_rt (v := none) rfl rfl rfl rfl rfl rfl ?_
                exact ⟨_, _, (at0 + 1), 5, rfl, rfl, hW208, hF209, rfl, rfl, by omega, by omega, by omega, trivial⟩
              · have _q := h207
                refine jx_ld (pc' := 73) (l' := L175) (st' := [.ref 66, .ref 66]) rfl (jl_aloadn gL175_0) ?_
                refine jr_get (pc' := 76) (i := 10) (v := .int (i32 (at0))) rfl rfl (by decide) (rFv_eq (by decide) (show (uG (uG G 11 (5)) 13 (r129)) 10 = at0 from (e_at0))) rfl ?_
                refine jx_ar (pc' := 77) (st' := [.int (i32 (2)), .int (i32 (at0)), .ref 66]) rfl rfl rfl rfl ?_
                refine jx_add (pc' := 78) rfl rfl ?_
                refine jx_go (tg := 87) rfl rfl ?_
                refine jr_put (pc' := 90) (i := 10) (z := (at0 + 2)) rfl rfl (by decide) rfl rfl rfl rfl rfl rfl ?_
                have hW210 : Wk (uG (uG (uG G 11 (5)) 13 (r129)) 10 ((at0 + 2))) A := Wk_g hW205 (show (0 : Int) ≤ (at0 + 2) by omega) (show (at0 + 2) ≤ (3002 : Int) by omega)
                have hF211 := Fr_g (z := (at0 + 2)) (i := 10) hF206 (by decide)
                refine jx_rt (v := none) rfl rfl rfl rfl rfl rfl ?_
                exact ⟨_, _, (at0 + 2), 5, rfl, rfl, hW210, hF211, rfl, rfl, by omega, by omega, by omega, trivial⟩
          · have _q := h194
            exact absurd h194 (by omega)
      · have _q := h174
        refine jx_ar (pc' := 32) (st' := [.int (i32 (1))]) rfl rfl rfl rfl ?_
        refine jx_go (tg := 36) rfl rfl ?_
        refine jx_ld (pc' := 37) (l' := jSto1 L134 3 (.int (i32 (1)))) (st' := []) rfl rfl ?_
        obtain ⟨L212, eL212⟩ : ∃ q, q = jSto1 L134 3 (.int (i32 (1))) := ⟨_, rfl⟩
        rw [← eL212]
        have gL212_0 : jGet L212 0 = some (.ref 66) := eL212 ▸ jg_ne (by decide) gL134_0 rfl
        have gL212_1 : jGet L212 1 = some (.int (i32 (c))) := eL212 ▸ jg_ne (by decide) gL134_1 rfl
        have gL212_2 : jGet L212 2 = some (.int (i32 (r129))) := eL212 ▸ jg_ne (by decide) gL134_2 rfl
        have gL212_3 : jGet L212 3 = some (.int (i32 (1))) := eL212 ▸ jg_eq
        refine jx_ld (pc' := 38) (l' := L212) (st' := [.ref 66]) rfl (jl_aloadn gL212_0) ?_
        refine jx_ld (pc' := 39) (l' := L212) (st' := [.int (i32 (r129)), .ref 66]) rfl (jl_iloadn gL212_2) ?_
        refine jx_if_gt (pc' := 42) (tg := 46) rfl rfl rfl (by omega) (by omega) (fun h213 => ?_) (fun h213 => ?_)
        · have _q := h213
          refine jx_ar (pc' := 47) (st' := [.int (i32 (4)), .ref 66]) rfl rfl rfl rfl ?_
          refine jx_go (tg := 51) rfl rfl ?_
          refine jr_put (pc' := 54) (i := 11) (z := 4) rfl rfl (by decide) rfl rfl rfl rfl rfl rfl ?_
          have hW214 : Wk (uG G 11 (4)) A := Wk_g hW (show (0 : Int) ≤ 4 by omega) (show 4 ≤ (5 : Int) by omega)
          have hF215 := Fr_g (z := 4) (i := 11) hF0 (by decide)
          refine jx_ld (pc' := 55) (l' := L212) (st' := [.ref 66]) rfl (jl_aloadn gL212_0) ?_
          refine jx_ld (pc' := 56) (l' := L212) (st' := [.int (i32 (r129)), .ref 66]) rfl (jl_iloadn gL212_2) ?_
          refine jx_if_le (pc' := 59) (tg := 63) rfl rfl rfl (by omega) (by omega) (fun h216 => ?_) (fun h216 => ?_)
          · have _q := h216
            refine jx_ld (pc' := 64) (l' := L212) (st' := [.int (i32 (c)), .ref 66]) rfl (jl_iloadn gL212_1) ?_
            refine jr_put (pc' := 67) (i := 13) (z := c) rfl rfl (by decide) rfl rfl rfl rfl rfl rfl ?_
            have hW217 : Wk (uG (uG G 11 (4)) 13 (c)) A := Wk_g hW214 (show (-2147483648 : Int) ≤ c by omega) (show c ≤ (2147483647 : Int) by omega)
            have hF218 := Fr_g (z := c) (i := 13) hF215 (by decide)
            refine jx_ld (pc' := 68) (l' := L212) (st' := [.ref 66]) rfl (jl_aloadn gL212_0) ?_
            refine jx_ld (pc' := 69) (l' := L212) (st' := [.int (i32 (r129)), .ref 66]) rfl (jl_iloadn gL212_2) ?_
            refine jx_if_le (pc' := 72) (tg := 81) rfl rfl rfl (by omega) (by omega) (fun h219 => ?_) (fun h219 => ?_)
            · have _q := h219
              refine jx_ld (pc' := 82) (l' := L212) (st' := [.ref 66, .ref 66]) rfl (jl_aloadn gL212_0) ?_
              refine jr_get (pc' := 85) (i := 10) (v := .int (i32 (at0))) rfl rfl (by decide) (rFv_eq (by decide) (show (uG (uG G 11 (4)) 13 (c)) 10 = at0 from (e_at0))) rfl ?_
              refine jx_ar (pc' := 86) (st' := [.int (i32 (1)), .int (i32 (at0)), .ref 66]) rfl rfl rfl rfl ?_
              refine jx_add (pc' := 87) rfl rfl ?_
              refine jr_put (pc' := 90) (i := 10) (z := (at0 + 1)) rfl rfl (by decide) rfl rfl rfl rfl rfl rfl ?_
              have hW220 : Wk (uG (uG (uG G 11 (4)) 13 (c)) 10 ((at0 + 1))) A := Wk_g hW217 (show (0 : Int) ≤ (at0 + 1) by omega) (show (at0 + 1) ≤ (3002 : Int) by omega)
              have hF221 := Fr_g (z := (at0 + 1)) (i := 10) hF218 (by decide)
              refine jx_rt (v := none) rfl rfl rfl rfl rfl rfl ?_
              exact ⟨_, _, (at0 + 1), 4, rfl, rfl, hW220, hF221, rfl, rfl, by omega, by omega, by omega, trivial⟩
            · have _q := h219
              refine jx_ld (pc' := 73) (l' := L212) (st' := [.ref 66, .ref 66]) rfl (jl_aloadn gL212_0) ?_
              refine jr_get (pc' := 76) (i := 10) (v := .int (i32 (at0))) rfl rfl (by decide) (rFv_eq (by decide) (show (uG (uG G 11 (4)) 13 (c)) 10 = at0 from (e_at0))) rfl ?_
              refine jx_ar (pc' := 77) (st' := [.int (i32 (2)), .int (i32 (at0)), .ref 66]) rfl rfl rfl rfl ?_
              refine jx_add (pc' := 78) rfl rfl ?_
              refine jx_go (tg := 87) rfl rfl ?_
              refine jr_put (pc' := 90) (i := 10) (z := (at0 + 2)) rfl rfl (by decide) rfl rfl rfl rfl rfl rfl ?_
              have hW222 : Wk (uG (uG (uG G 11 (4)) 13 (c)) 10 ((at0 + 2))) A := Wk_g hW217 (show (0 : Int) ≤ (at0 + 2) by omega) (show (at0 + 2) ≤ (3002 : Int) by omega)
              have hF223 := Fr_g (z := (at0 + 2)) (i := 10) hF218 (by decide)
              refine jx_rt (v := none) rfl rfl rfl rfl rfl rfl ?_
              exact ⟨_, _, (at0 + 2), 4, rfl, rfl, hW222, hF223, rfl, rfl, by omega, by omega, by omega, trivial⟩
          · have _q := h216
            refine jx_ld (pc' := 60) (l' := L212) (st' := [.int (i32 (r129)), .ref 66]) rfl (jl_iloadn gL212_2) ?_
            refine jx_go (tg := 64) rfl rfl ?_
            refine jr_put (pc' := 67) (i := 13) (z := r129) rfl rfl (by decide) rfl rfl rfl rfl rfl rfl ?_
            have hW224 : Wk (uG (uG G 11 (4)) 13 (r129)) A := Wk_g hW214 (show (-2147483648 : Int) ≤ r129 by omega) (show r129 ≤ (2147483647 : Int) by omega)
            have hF225 := Fr_g (z := r129) (i := 13) hF215 (by decide)
            refine jx_ld (pc' := 68) (l' := L212) (st' := [.ref 66]) rfl (jl_aloadn gL212_0) ?_
            refine jx_ld (pc' := 69) (l' := L212) (st' := [.int (i32 (r129)), .ref 66]) rfl (jl_iloadn gL212_2) ?_
            refine jx_if_le (pc' := 72) (tg := 81) rfl rfl rfl (by omega) (by omega) (fun h226 => ?_) (fun h226 => ?_)
            · have _q := h226
              refine jx_ld (pc' := 82) (l' := L212) (st' := [.ref 66, .ref 66]) rfl (jl_aloadn gL212_0) ?_
              refine jr_get (pc' := 85) (i := 10) (v := .int (i32 (at0))) rfl rfl (by decide) (rFv_eq (by decide) (show (uG (uG G 11 (4)) 13 (r129)) 10 = at0 from (e_at0))) rfl ?_
              refine jx_ar (pc' := 86) (st' := [.int (i32 (1)), .int (i32 (at0)), .ref 66]) rfl rfl rfl rfl ?_
              refine jx_add (pc' := 87) rfl rfl ?_
              refine jr_put (pc' := 90) (i := 10) (z := (at0 + 1)) rfl rfl (by decide) rfl rfl rfl rfl rfl rfl ?_
              have hW227 : Wk (uG (uG (uG G 11 (4)) 13 (r129)) 10 ((at0 + 1))) A := Wk_g hW224 (show (0 : Int) ≤ (at0 + 1) by omega) (show (at0 + 1) ≤ (3002 : Int) by omega)
              have hF228 := Fr_g (z := (at0 + 1)) (i := 10) hF225 (by decide)
              refine jx_rt (v := none) rfl rfl rfl rfl rfl rfl ?_
              exact ⟨_, _, (at0 + 1), 4, rfl, rfl, hW227, hF228, rfl, rfl, by omega, by omega, by omega, trivial⟩
            · have _q := h226
              refine jx_ld (pc' := 73) (l' := L212) (st' := [.ref 66, .ref 66]) rfl (jl_aloadn gL212_0) ?_
              refine jr_get (pc' := 76) (i := 10) (v := .int (i32 (at0))) rfl rfl (by decide) (rFv_eq (by decide) (show (uG (uG G 11 (4)) 13 (r129)) 10 = at0 from (e_at0))) rfl ?_
              refine jx_ar (pc' := 77) (st' := [.int (i32 (2)), .int (i32 (at0)), .ref 66]) rfl rfl rfl rfl ?_
              refine jx_add (pc' := 78) rfl rfl ?_
              refine jx_go (tg := 87) rfl rfl ?_
              refine jr_put (pc' := 90) (i := 10) (z := (at0 + 2)) rfl rfl (by decide) rfl rfl rfl rfl rfl rfl ?_
              have hW229 : Wk (uG (uG (uG G 11 (4)) 13 (r129)) 10 ((at0 + 2))) A := Wk_g hW224 (show (0 : Int) ≤ (at0 + 2) by omega) (show (at0 + 2) ≤ (3002 : Int) by omega)
              have hF230 := Fr_g (z := (at0 + 2)) (i := 10) hF225 (by decide)
              refine jx_rt (v := none) rfl rfl rfl rfl rfl rfl ?_
              exact ⟨_, _, (at0 + 2), 4, rfl, rfl, hW229, hF230, rfl, rfl, by omega, by omega, by omega, trivial⟩
        · have _q := h213
          refine jx_ld (pc' := 43) (l' := L212) (st' := [.int (i32 (1)), .ref 66]) rfl (jl_iloadn gL212_3) ?_
          refine jx_if_eq (pc' := 46) (tg := 50) rfl rfl rfl (by omega) (by omega) (fun h231 => ?_) (fun h231 => ?_)
          · have _q := h231
            exact absurd h231 (by omega)
          · have _q := h231
            refine jx_ar (pc' := 47) (st' := [.int (i32 (4)), .ref 66]) rfl rfl rfl rfl ?_
            refine jx_go (tg := 51) rfl rfl ?_
            refine jr_put (pc' := 54) (i := 11) (z := 4) rfl rfl (by decide) rfl rfl rfl rfl rfl rfl ?_
            have hW232 : Wk (uG G 11 (4)) A := Wk_g hW (show (0 : Int) ≤ 4 by omega) (show 4 ≤ (5 : Int) by omega)
            have hF233 := Fr_g (z := 4) (i := 11) hF0 (by decide)
            refine jx_ld (pc' := 55) (l' := L212) (st' := [.ref 66]) rfl (jl_aloadn gL212_0) ?_
            refine jx_ld (pc' := 56) (l' := L212) (st' := [.int (i32 (r129)), .ref 66]) rfl (jl_iloadn gL212_2) ?_
            refine jx_if_le (pc' := 59) (tg := 63) rfl rfl rfl (by omega) (by omega) (fun h234 => ?_) (fun h234 => ?_)
            · have _q := h234
              refine jx_ld (pc' := 64) (l' := L212) (st' := [.int (i32 (c)), .ref 66]) rfl (jl_iloadn gL212_1) ?_
              refine jr_put (pc' := 67) (i := 13) (z := c) rfl rfl (by decide) rfl rfl rfl rfl rfl rfl ?_
              have hW235 : Wk (uG (uG G 11 (4)) 13 (c)) A := Wk_g hW232 (show (-2147483648 : Int) ≤ c by omega) (show c ≤ (2147483647 : Int) by omega)
              have hF236 := Fr_g (z := c) (i := 13) hF233 (by decide)
              refine jx_ld (pc' := 68) (l' := L212) (st' := [.ref 66]) rfl (jl_aloadn gL212_0) ?_
              refine jx_ld (pc' := 69) (l' := L212) (st' := [.int (i32 (r129)), .ref 66]) rfl (jl_iloadn gL212_2) ?_
              refine jx_if_le (pc' := 72) (tg := 81) rfl rfl rfl (by omega) (by omega) (fun h237 => ?_) (fun h237 => ?_)
              · have _q := h237
                refine jx_ld (pc' := 82) (l' := L212) (st' := [.ref 66, .ref 66]) rfl (jl_aloadn gL212_0) ?_
                refine jr_get (pc' := 85) (i := 10) (v := .int (i32 (at0))) rfl rfl (by decide) (rFv_eq (by decide) (show (uG (uG G 11 (4)) 13 (c)) 10 = at0 from (e_at0))) rfl ?_
                refine jx_ar (pc' := 86) (st' := [.int (i32 (1)), .int (i32 (at0)), .ref 66]) rfl rfl rfl rfl ?_
                refine jx_add (pc' := 87) rfl rfl ?_
                refine jr_put (pc' := 90) (i := 10) (z := (at0 + 1)) rfl rfl (by decide) rfl rfl rfl rfl rfl rfl ?_
                have hW238 : Wk (uG (uG (uG G 11 (4)) 13 (c)) 10 ((at0 + 1))) A := Wk_g hW235 (show (0 : Int) ≤ (at0 + 1) by omega) (show (at0 + 1) ≤ (3002 : Int) by omega)
                have hF239 := Fr_g (z := (at0 + 1)) (i := 10) hF236 (by decide)
                refine jx_rt (v := none) rfl rfl rfl rfl rfl rfl ?_
                exact ⟨_, _, (at0 + 1), 4, rfl, rfl, hW238, hF239, rfl, rfl, by omega, by omega, by omega, trivial⟩
              · have _q := h237
                refine jx_ld (pc' := 73) (l' := L212) (st' := [.ref 66, .ref 66]) rfl (jl_aloadn gL212_0) ?_
                refine jr_get (pc' := 76) (i := 10) (v := .int (i32 (at0))) rfl rfl (by decide) (rFv_eq (by decide) (show (uG (uG G 11 (4)) 13 (c)) 10 = at0 from (e_at0))) rfl ?_
                refine jx_ar (pc' := 77) (st' := [.int (i32 (2)), .int (i32 (at0)), .ref 66]) rfl rfl rfl rfl ?_
                refine jx_add (pc' := 78) rfl rfl ?_
                refine jx_go (tg := 87) rfl rfl ?_
                refine jr_put (pc' := 90) (i := 10) (z := (at0 + 2)) rfl rfl (by decide) rfl rfl rfl rfl rfl rfl ?_
                have hW240 : Wk (uG (uG (uG G 11 (4)) 13 (c)) 10 ((at0 + 2))) A := Wk_g hW235 (show (0 : Int) ≤ (at0 + 2) by omega) (show (at0 + 2) ≤ (3002 : Int) by omega)
                have hF241 := Fr_g (z := (at0 + 2)) (i := 10) hF236 (by decide)
                refine jx_rt (v := none) rfl rfl rfl rfl rfl rfl ?_
                exact ⟨_, _, (at0 + 2), 4, rfl, rfl, hW240, hF241, rfl, rfl, by omega, by omega, by omega, trivial⟩
            · have _q := h234
              refine jx_ld (pc' := 60) (l' := L212) (st' := [.int (i32 (r129)), .ref 66]) rfl (jl_iloadn gL212_2) ?_
              refine jx_go (tg := 64) rfl rfl ?_
              refine jr_put (pc' := 67) (i := 13) (z := r129) rfl rfl (by decide) rfl rfl rfl rfl rfl rfl ?_
              have hW242 : Wk (uG (uG G 11 (4)) 13 (r129)) A := Wk_g hW232 (show (-2147483648 : Int) ≤ r129 by omega) (show r129 ≤ (2147483647 : Int) by omega)
              have hF243 := Fr_g (z := r129) (i := 13) hF233 (by decide)
              refine jx_ld (pc' := 68) (l' := L212) (st' := [.ref 66]) rfl (jl_aloadn gL212_0) ?_
              refine jx_ld (pc' := 69) (l' := L212) (st' := [.int (i32 (r129)), .ref 66]) rfl (jl_iloadn gL212_2) ?_
              refine jx_if_le (pc' := 72) (tg := 81) rfl rfl rfl (by omega) (by omega) (fun h244 => ?_) (fun h244 => ?_)
              · have _q := h244
                refine jx_ld (pc' := 82) (l' := L212) (st' := [.ref 66, .ref 66]) rfl (jl_aloadn gL212_0) ?_
                refine jr_get (pc' := 85) (i := 10) (v := .int (i32 (at0))) rfl rfl (by decide) (rFv_eq (by decide) (show (uG (uG G 11 (4)) 13 (r129)) 10 = at0 from (e_at0))) rfl ?_
                refine jx_ar (pc' := 86) (st' := [.int (i32 (1)), .int (i32 (at0)), .ref 66]) rfl rfl rfl rfl ?_
                refine jx_add (pc' := 87) rfl rfl ?_
                refine jr_put (pc' := 90) (i := 10) (z := (at0 + 1)) rfl rfl (by decide) rfl rfl rfl rfl rfl rfl ?_
                have hW245 : Wk (uG (uG (uG G 11 (4)) 13 (r129)) 10 ((at0 + 1))) A := Wk_g hW242 (show (0 : Int) ≤ (at0 + 1) by omega) (show (at0 + 1) ≤ (3002 : Int) by omega)
                have hF246 := Fr_g (z := (at0 + 1)) (i := 10) hF243 (by decide)
                refine jx_rt (v := none) rfl rfl rfl rfl rfl rfl ?_
                exact ⟨_, _, (at0 + 1), 4, rfl, rfl, hW245, hF246, rfl, rfl, by omega, by omega, by omega, trivial⟩
              · have _q := h244
                refine jx_ld (pc' := 73) (l' := L212) (st' := [.ref 66, .ref 66]) rfl (jl_aloadn gL212_0) ?_
                refine jr_get (pc' := 76) (i := 10) (v := .int (i32 (at0))) rfl rfl (by decide) (rFv_eq (by decide) (show (uG (uG G 11 (4)) 13 (r129)) 10 = at0 from (e_at0))) rfl ?_
                refine jx_ar (pc' := 77) (st' := [.int (i32 (2)), .int (i32 (at0)), .ref 66]) rfl rfl rfl rfl ?_
                refine jx_add (pc' := 78) rfl rfl ?_
                refine jx_go (tg := 87) rfl rfl ?_
                refine jr_put (pc' := 90) (i := 10) (z := (at0 + 2)) rfl rfl (by decide) rfl rfl rfl rfl rfl rfl ?_
                have hW247 : Wk (uG (uG (uG G 11 (4)) 13 (r129)) 10 ((at0 + 2))) A := Wk_g hW242 (show (0 : Int) ≤ (at0 + 2) by omega) (show (at0 + 2) ≤ (3002 : Int) by omega)
                have hF248 := Fr_g (z := (at0 + 2)) (i := 10) hF243 (by decide)
                refine jx_rt (v := none) rfl rfl rfl rfl rfl rfl ?_
                exact ⟨_, _, (at0 + 2), 4, rfl, rfl, hW247, hF248, rfl, rfl, by omega, by omega, by omega, trivial⟩
set_option maxRecDepth 20000 in
set_option maxHeartbeats 4000000 in
theorem c_next {X : jX} {dd : Nat} {c0 c1 : jC} {G : Nat → Int} {A : Nat → Nat → Int} {T : jH} {ln le at0 : Int} (hd : 4 ≤ dd) (hW : Wk G A) (e_ln : G 9 = ln) (e_le : A 4 (ln).toNat = le) (e_at0 : G 10 = at0) (p_0 : at0 ≤ le) : wk X dd 259 [.ref 66] (rV c0 c1 G A T) (fun o V' => ∃ (G' : Nat → Int) (A' : Nat → Nat → Int) (at2 : Int) (tk2 : Int), V' = rV c0 c1 G' A' T ∧ o = .inl none ∧ Wk G' A' ∧ Fr [10, 11, 12, 13, 14] [] G A G' A' ∧ G' 10 = at2 ∧ G' 11 = tk2 ∧ (at0 ≤ at2) ∧ (at2 ≤ le) ∧ (2 * at0 ≤ 2 * at2 - tz tk2) ∧ True) := by
  obtain ⟨d, rfl⟩ : ∃ d, dd = d + 1 := ⟨dd - 1, by omega⟩
  refine wk_of (e := jm259) rfl (Nat.le_of_ble_eq_true rfl) ?_
  show wj X d jm259 (0, [(0, .ref 66)], [], rV c0 c1 G A T) _
  have hF0 : Fr [10, 11, 12, 13, 14] [] G A G A := Fr_rf
  have b_ln : (0 : Int) ≤ ln ∧ ln ≤ 3000 := e_ln ▸ hW.1 9
  have b_le : (0 : Int) ≤ le ∧ le ≤ 3000 := e_le ▸ hW.2 4 _
  have b_at0 : (0 : Int) ≤ at0 ∧ at0 ≤ 3002 := e_at0 ▸ hW.1 10
  have loop1 : ∀ (m : Nat) (L : jL) (Gx : Nat → Int) (Ax : Nat → Nat → Int) (at1 : Int), (3002 - at1).toNat = m → jGet L 0 = some (.ref 66) → Wk Gx Ax → Fr [10, 11, 12, 13, 14] [] G A Gx Ax → Gx 10 = at1 → (at0 ≤ at1) → (at1 ≤ le) → wj X d jm259 (0, L, [], rV c0 c1 Gx Ax T) (fun o V' => ∃ (G' : Nat → Int) (A' : Nat → Nat → Int) (at2 : Int) (tk2 : Int), V' = rV c0 c1 G' A' T ∧ o = .inl none ∧ Wk G' A' ∧ Fr [10, 11, 12, 13, 14] [] G A G' A' ∧ G' 10 = at2 ∧ G' 11 = tk2 ∧ (at0 ≤ at2) ∧ (at2 ≤ le) ∧ (2 * at0 ≤ 2 * at2 - tz tk2) ∧ True) := by
    intro m
    induction m using Nat.strongRecOn with
    | ind m ih =>
      intro L Gx Ax at1 hm gL_0 hWx hFx ex_at1 iv_0 iv_1
      have b_at1 : (0 : Int) ≤ at1 ∧ at1 ≤ 3002 := ex_at1 ▸ hWx.1 10
      refine jx_ld (pc' := 1) (l' := L) (st' := [.ref 66]) rfl (jl_aloadn gL_0) ?_
      refine jx_ld (pc' := 2) (l' := L) (st' := [.ref 66, .ref 66]) rfl (jl_aloadn gL_0) ?_
      refine jr_get (pc' := 5) (i := 10) (v := .int (i32 (at1))) rfl rfl (by decide) (rFv_eq (by decide) (show Gx 10 = at1 from (ex_at1))) rfl ?_
      have b2 : (0 : Int) ≤ A 0 (at1).toNat ∧ A 0 (at1).toNat ≤ 126 := hW.2 0 _
      refine jx_vr (pc' := 8) (as := [.int (i32 (at1))]) (st := []) rfl rfl rfl rfl ⟨rfl, rfl, Nat.le_of_ble_eq_true rfl⟩ rfl rfl (c_sign (dd := d) (hd := by omega) (hW := hWx) (k := at1) (ln := ln) (e_ln := show Gx 9 = ln from ((hFx.1 9 rfl).trans (e_ln))) (le := le) (e_le := show Ax 4 (ln).toNat = le from (congrFun (hFx.2 4 rfl) _).trans (e_le)) (tx := A 0 (at1).toNat) (e_tx := show Ax 0 (at1).toNat = A 0 (at1).toNat from (congrFun (hFx.2 0 rfl) _))  (h_k := by omega)  (p_0 := by omega)) (fun o V' hq => ?_)
      obtain ⟨r3, rfl, rfl, b4, q5⟩ := hq
      refine .inr ⟨_, rfl, ?_⟩
      rcases q5 with ⟨a6, a7⟩ | ⟨a8, a9⟩
      · have _q : True := trivial
        refine jx_ar (pc' := 10) (st' := [.int (i32 (32)), .int (i32 (r3))]) rfl rfl rfl rfl ?_
        refine jx_icmp_ne (pc' := 13) (tg := 26) rfl rfl rfl (by omega) (by omega) (by omega) (by omega) (fun h10 => ?_) (fun h10 => ?_)
        · have _q := h10
          refine jx_ld (pc' := 27) (l' := L) (st' := [.ref 66]) rfl (jl_aloadn gL_0) ?_
          refine jx_ld (pc' := 28) (l' := L) (st' := [.ref 66, .ref 66]) rfl (jl_aloadn gL_0) ?_
          refine jr_get (pc' := 31) (i := 10) (v := .int (i32 (at1))) rfl rfl (by decide) (rFv_eq (by decide) (show Gx 10 = at1 from (ex_at1))) rfl ?_
          refine jx_ld (pc' := 32) (l' := L) (st' := [.ref 66, .int (i32 (at1)), .ref 66]) rfl (jl_aloadn gL_0) ?_
          refine jr_get (pc' := 35) (i := 5) (v := .ref 69) rfl rfl (by decide) rfl rfl ?_
          refine jx_ld (pc' := 36) (l' := L) (st' := [.ref 66, .ref 69, .int (i32 (at1)), .ref 66]) rfl (jl_aloadn gL_0) ?_
          refine jr_get (pc' := 39) (i := 9) (v := .int (i32 (ln))) rfl rfl (by decide) (rFv_eq (by decide) (show Gx 9 = ln from ((hFx.1 9 rfl).trans (e_ln)))) rfl ?_
          have b11 : (0 : Int) ≤ A 2 (ln).toNat ∧ A 2 (ln).toNat ≤ 3000 := hW.2 2 _
          refine jr_ldv (pc' := 40) (i := 2) (m := 3001) (z := ln) (y := A 2 (ln).toNat) rfl (by decide) rfl (by decide) (by omega) (by omega) rfl (show Ax 2 (ln).toNat = A 2 (ln).toNat from (congrFun (hFx.2 2 rfl) _)) ?_
          refine jx_sub (pc' := 41) rfl rfl ?_
          refine jr_put (pc' := 44) (i := 12) (z := (at1 - A 2 (ln).toNat)) rfl rfl (by decide) rfl rfl rfl rfl rfl rfl ?_
          have hW12 : Wk (uG Gx 12 ((at1 - A 2 (ln).toNat))) Ax := Wk_g hWx (show (-3000 : Int) ≤ (at1 - A 2 (ln).toNat) by omega) (show (at1 - A 2 (ln).toNat) ≤ (3002 : Int) by omega)
          have hF13 := Fr_g (z := (at1 - A 2 (ln).toNat)) (i := 12) hFx (by decide)
          refine jx_ld (pc' := 45) (l' := L) (st' := [.ref 66]) rfl (jl_aloadn gL_0) ?_
          refine jx_ld (pc' := 46) (l' := L) (st' := [.ref 66, .ref 66]) rfl (jl_aloadn gL_0) ?_
          refine jr_get (pc' := 49) (i := 10) (v := .int (i32 (at1))) rfl rfl (by decide) (rFv_eq (by decide) (show (uG Gx 12 ((at1 - A 2 (ln).toNat))) 10 = at1 from (ex_at1))) rfl ?_
          refine jx_vr (pc' := 52) (as := [.int (i32 (at1))]) (st := []) rfl rfl rfl rfl ⟨rfl, rfl, Nat.le_of_ble_eq_true rfl⟩ rfl rfl (c_sign (dd := d) (hd := by omega) (hW := hW12) (k := at1) (ln := ln) (e_ln := show (uG Gx 12 ((at1 - A 2 (ln).toNat))) 9 = ln from ((hFx.1 9 rfl).trans (e_ln))) (le := le) (e_le := show Ax 4 (ln).toNat = le from (congrFun (hFx.2 4 rfl) _).trans (e_le)) (tx := A 0 (at1).toNat) (e_tx := show Ax 0 (at1).toNat = A 0 (at1).toNat from (congrFun (hFx.2 0 rfl) _))  (h_k := by omega)  (p_0 := by omega)) (fun o V' hq => ?_)
          obtain ⟨r14, rfl, rfl, b15, q16⟩ := hq
          refine .inr ⟨_, rfl, ?_⟩
          rcases q16 with ⟨a17, a18⟩ | ⟨a19, a20⟩
          · have _q : True := trivial
            refine jx_ld (pc' := 53) (l' := jSto1 L 1 (.int (i32 (r14)))) (st' := []) rfl rfl ?_
            obtain ⟨L21, eL21⟩ : ∃ q, q = jSto1 L 1 (.int (i32 (r14))) := ⟨_, rfl⟩
            rw [← eL21]
            have gL21_0 : jGet L21 0 = some (.ref 66) := eL21 ▸ jg_ne (by decide) gL_0 rfl
            have gL21_1 : jGet L21 1 = some (.int (i32 (r14))) := eL21 ▸ jg_eq
            refine jx_ld (pc' := 54) (l' := L21) (st' := [.int (i32 (r14))]) rfl (jl_iloadn gL21_1) ?_
            refine jx_if_ne (pc' := 57) (tg := 88) rfl rfl rfl (by omega) (by omega) (fun h22 => ?_) (fun h22 => ?_)
            · have _q := h22
              refine jx_ld (pc' := 89) (l' := L21) (st' := [.int (i32 (r14))]) rfl (jl_iloadn gL21_1) ?_
              refine jx_st (pc' := 92) (as := [.int (i32 (r14))]) (st := []) rfl rfl ⟨rfl, Nat.le_of_ble_eq_true rfl⟩ rfl rfl rfl (c_isSmall (dd := d) (hd := by omega) (v := r14)   (h_v := by omega)  ) (fun o V' hq => ?_)
              obtain ⟨r23, rfl, rfl, b24, q25⟩ := hq
              refine .inr ⟨_, rfl, ?_⟩
              rcases q25 with ⟨rfl, a26, a27⟩ | ⟨rfl, a28⟩
              · have _q : True := trivial
                refine jx_if_eq (pc' := 95) (tg := 102) rfl rfl rfl (by omega) (by omega) (fun h29 => ?_) (fun h29 => ?_)
                · have _q := h29
                  exact absurd h29 (by omega)
                · have _q := h29
                  refine jx_ld (pc' := 96) (l' := L21) (st' := [.ref 66]) rfl (jl_aloadn gL21_0) ?_
                  refine jx_vr (pc' := 99) (as := []) (st := []) rfl rfl rfl rfl ⟨rfl, rfl, Nat.le_of_ble_eq_true rfl⟩ rfl rfl (c_nameToken (dd := d) (hd := by omega) (hW := hW12)  (ln := ln) (e_ln := show (uG Gx 12 ((at1 - A 2 (ln).toNat))) 9 = ln from ((hFx.1 9 rfl).trans (e_ln))) (le := le) (e_le := show Ax 4 (ln).toNat = le from (congrFun (hFx.2 4 rfl) _).trans (e_le)) (at0 := at1) (e_at0 := show (uG Gx 12 ((at1 - A 2 (ln).toNat))) 10 = at1 from (ex_at1)) (tx := A 0 (at1).toNat) (e_tx := show Ax 0 (at1).toNat = A 0 (at1).toNat from (congrFun (hFx.2 0 rfl) _))    (p_0 := by omega) (p_1 := by omega)) (fun o V' hq => ?_)
                  obtain ⟨G30, A31, at2_32, tk2_33, rfl, rfl, hW34, hF35, e36, e37, p38, p39, p40, -⟩ := hq
                  have hF42 := Fr_tr hF13 hF35 (Fr_sub (by decide)) (Fr_sub (by decide))
                  have bat2_32 : (0 : Int) ≤ at2_32 ∧ at2_32 ≤ 3002 := e36 ▸ hW34.1 10
                  have ztk2_33 := tz_b tk2_33
                  have btk2_33 : (0 : Int) ≤ tk2_33 ∧ tk2_33 ≤ 5 := e37 ▸ hW34.1 11
                  refine .inl ⟨rfl, ?_⟩
                  refine jx_go (tg := 135) rfl rfl ?_
                  refine jx_rt (v := none) rfl rfl rfl rfl rfl rfl ?_
                  have z43 := tz_f (tk2_33)
                  exact ⟨_, _, at2_32, tk2_33, rfl, rfl, hW34, hF42, (e36), (e37), by omega, by omega, by omega, trivial⟩
              · have _q : True := trivial
                refine jx_if_eq (pc' := 95) (tg := 102) rfl rfl rfl (by omega) (by omega) (fun h44 => ?_) (fun h44 => ?_)
                · have _q := h44
                  refine jx_ld (pc' := 103) (l' := L21) (st' := [.int (i32 (r14))]) rfl (jl_iloadn gL21_1) ?_
                  refine jx_st (pc' := 106) (as := [.int (i32 (r14))]) (st := []) rfl rfl ⟨rfl, Nat.le_of_ble_eq_true rfl⟩ rfl rfl rfl (c_isBig (dd := d) (hd := by omega) (v := r14)   (h_v := by omega)  ) (fun o V' hq => ?_)
                  obtain ⟨r45, rfl, rfl, b46, q47⟩ := hq
                  refine .inr ⟨_, rfl, ?_⟩
                  rcases q47 with ⟨rfl, a48, a49⟩ | ⟨rfl, a50⟩
                  · have _q : True := trivial
                    refine jx_if_eq (pc' := 109) (tg := 116) rfl rfl rfl (by omega) (by omega) (fun h51 => ?_) (fun h51 => ?_)
                    · have _q := h51
                      exact absurd h51 (by omega)
                    · have _q := h51
                      refine jx_ld (pc' := 110) (l' := L21) (st' := [.ref 66]) rfl (jl_aloadn gL21_0) ?_
                      refine jx_vr (pc' := 113) (as := []) (st := []) rfl rfl rfl rfl ⟨rfl, rfl, Nat.le_of_ble_eq_true rfl⟩ rfl rfl (c_keyToken (dd := d) (hd := by omega) (hW := hW12)  (ln := ln) (e_ln := show (uG Gx 12 ((at1 - A 2 (ln).toNat))) 9 = ln from ((hFx.1 9 rfl).trans (e_ln))) (le := le) (e_le := show Ax 4 (ln).toNat = le from (congrFun (hFx.2 4 rfl) _).trans (e_le)) (at0 := at1) (e_at0 := show (uG Gx 12 ((at1 - A 2 (ln).toNat))) 10 = at1 from (ex_at1)) (tx := A 0 (at1).toNat) (e_tx := show Ax 0 (at1).toNat = A 0 (at1).toNat from (congrFun (hFx.2 0 rfl) _))    (p_0 := by omega) (p_1 := by omega)) (fun o V' hq => ?_)
                      obtain ⟨G52, A53, at2_54, tk2_55, rfl, rfl, hW56, hF57, e58, e59, p60, p61, p62, -⟩ := hq
                      have hF64 := Fr_tr hF13 hF57 (Fr_sub (by decide)) (Fr_sub (by decide))
                      have bat2_54 : (0 : Int) ≤ at2_54 ∧ at2_54 ≤ 3002 := e58 ▸ hW56.1 10
                      have ztk2_55 := tz_b tk2_55
                      have btk2_55 : (0 : Int) ≤ tk2_55 ∧ tk2_55 ≤ 5 := e59 ▸ hW56.1 11
                      refine .inl ⟨rfl, ?_⟩
                      refine jx_go (tg := 135) rfl rfl ?_
                      refine jx_rt (v := none) rfl rfl rfl rfl rfl rfl ?_
                      have z65 := tz_f (tk2_55)
                      exact ⟨_, _, at2_54, tk2_55, rfl, rfl, hW56, hF64, (e58), (e59), by omega, by omega, by omega, trivial⟩
                  · have _q : True := trivial
                    refine jx_if_eq (pc' := 109) (tg := 116) rfl rfl rfl (by omega) (by omega) (fun h66 => ?_) (fun h66 => ?_)
                    · have _q := h66
                      refine jx_ld (pc' := 117) (l' := L21) (st' := [.int (i32 (r14))]) rfl (jl_iloadn gL21_1) ?_
                      refine jx_st (pc' := 120) (as := [.int (i32 (r14))]) (st := []) rfl rfl ⟨rfl, Nat.le_of_ble_eq_true rfl⟩ rfl rfl rfl (c_isDigit (dd := d) (hd := by omega) (v := r14)   (h_v := by omega)  ) (fun o V' hq => ?_)
                      obtain ⟨r67, rfl, rfl, b68, q69⟩ := hq
                      refine .inr ⟨_, rfl, ?_⟩
                      rcases q69 with ⟨rfl, a70, a71⟩ | ⟨rfl, a72⟩
                      · have _q : True := trivial
                        refine jx_if_eq (pc' := 123) (tg := 130) rfl rfl rfl (by omega) (by omega) (fun h73 => ?_) (fun h73 => ?_)
                        · have _q := h73
                          exact absurd h73 (by omega)
                        · have _q := h73
                          refine jx_ld (pc' := 124) (l' := L21) (st' := [.ref 66]) rfl (jl_aloadn gL21_0) ?_
                          refine jx_vr (pc' := 127) (as := []) (st := []) rfl rfl rfl rfl ⟨rfl, rfl, Nat.le_of_ble_eq_true rfl⟩ rfl rfl (c_numberToken (dd := d) (hd := by omega) (hW := hW12)  (ln := ln) (e_ln := show (uG Gx 12 ((at1 - A 2 (ln).toNat))) 9 = ln from ((hFx.1 9 rfl).trans (e_ln))) (le := le) (e_le := show Ax 4 (ln).toNat = le from (congrFun (hFx.2 4 rfl) _).trans (e_le)) (at0 := at1) (e_at0 := show (uG Gx 12 ((at1 - A 2 (ln).toNat))) 10 = at1 from (ex_at1)) (tx := A 0 (at1).toNat) (e_tx := show Ax 0 (at1).toNat = A 0 (at1).toNat from (congrFun (hFx.2 0 rfl) _))    (p_0 := by omega) (p_1 := by omega)) (fun o V' hq => ?_)
                          obtain ⟨G74, A75, at2_76, tk2_77, rfl, rfl, hW78, hF79, e80, e81, p82, p83, p84, -⟩ := hq
                          have hF86 := Fr_tr hF13 hF79 (Fr_sub (by decide)) (Fr_sub (by decide))
                          have bat2_76 : (0 : Int) ≤ at2_76 ∧ at2_76 ≤ 3002 := e80 ▸ hW78.1 10
                          have ztk2_77 := tz_b tk2_77
                          have btk2_77 : (0 : Int) ≤ tk2_77 ∧ tk2_77 ≤ 5 := e81 ▸ hW78.1 11
                          refine .inl ⟨rfl, ?_⟩
                          refine jx_go (tg := 135) rfl rfl ?_
                          refine jx_rt (v := none) rfl rfl rfl rfl rfl rfl ?_
                          have z87 := tz_f (tk2_77)
                          exact ⟨_, _, at2_76, tk2_77, rfl, rfl, hW78, hF86, (e80), (e81), by omega, by omega, by omega, trivial⟩
                      · have _q : True := trivial
                        refine jx_if_eq (pc' := 123) (tg := 130) rfl rfl rfl (by omega) (by omega) (fun h88 => ?_) (fun h88 => ?_)
                        · have _q := h88
                          refine jx_ld (pc' := 131) (l' := L21) (st' := [.ref 66]) rfl (jl_aloadn gL21_0) ?_
                          refine jx_ld (pc' := 132) (l' := L21) (st' := [.int (i32 (r14)), .ref 66]) rfl (jl_iloadn gL21_1) ?_
                          refine jx_vr (pc' := 135) (as := [.int (i32 (r14))]) (st := []) rfl rfl rfl rfl ⟨rfl, rfl, Nat.le_of_ble_eq_true rfl⟩ rfl rfl (c_signToken (dd := d) (hd := by omega) (hW := hW12) (c := r14) (ln := ln) (e_ln := show (uG Gx 12 ((at1 - A 2 (ln).toNat))) 9 = ln from ((hFx.1 9 rfl).trans (e_ln))) (le := le) (e_le := show Ax 4 (ln).toNat = le from (congrFun (hFx.2 4 rfl) _).trans (e_le)) (at0 := at1) (e_at0 := show (uG Gx 12 ((at1 - A 2 (ln).toNat))) 10 = at1 from (ex_at1))  (h_c := by omega)  (p_0 := by omega) (p_1 := by omega)) (fun o V' hq => ?_)
                          obtain ⟨G89, A90, at2_91, tk2_92, rfl, rfl, hW93, hF94, e95, e96, p97, p98, p99, -⟩ := hq
                          have hF101 := Fr_tr hF13 hF94 (Fr_sub (by decide)) (Fr_sub (by decide))
                          have bat2_91 : (0 : Int) ≤ at2_91 ∧ at2_91 ≤ 3002 := e95 ▸ hW93.1 10
                          have ztk2_92 := tz_b tk2_92
                          have btk2_92 : (0 : Int) ≤ tk2_92 ∧ tk2_92 ≤ 5 := e96 ▸ hW93.1 11
                          refine .inl ⟨rfl, ?_⟩
                          refine jx_rt (v := none) rfl rfl rfl rfl rfl rfl ?_
                          have z102 := tz_f (tk2_92)
                          exact ⟨_, _, at2_91, tk2_92, rfl, rfl, hW93, hF101, (e95), (e96), by omega, by omega, by omega, trivial⟩
                        · have _q := h88
                          exact absurd h88 (by omega)
                    · have _q := h66
                      exact absurd h66 (by omega)
                · have _q := h44
                  exact absurd h44 (by omega)
            · have _q := h22
              refine jx_ld (pc' := 58) (l' := L21) (st' := [.ref 66]) rfl (jl_aloadn gL21_0) ?_
              refine jx_ar (pc' := 59) (st' := [.int (i32 (0)), .ref 66]) rfl rfl rfl rfl ?_
              refine jr_put (pc' := 62) (i := 11) (z := 0) rfl rfl (by decide) rfl rfl rfl rfl rfl rfl ?_
              have hW103 : Wk (uG (uG Gx 12 ((at1 - A 2 (ln).toNat))) 11 (0)) Ax := Wk_g hW12 (show (0 : Int) ≤ 0 by omega) (show 0 ≤ (5 : Int) by omega)
              have hF104 := Fr_g (z := 0) (i := 11) hF13 (by decide)
              refine jx_ld (pc' := 63) (l' := L21) (st' := [.ref 66]) rfl (jl_aloadn gL21_0) ?_
              refine jx_ld (pc' := 64) (l' := L21) (st' := [.ref 66, .ref 66]) rfl (jl_aloadn gL21_0) ?_
              refine jr_get (pc' := 67) (i := 7) (v := .ref 71) rfl rfl (by decide) rfl rfl ?_
              refine jx_ld (pc' := 68) (l' := L21) (st' := [.ref 66, .ref 71, .ref 66]) rfl (jl_aloadn gL21_0) ?_
              refine jr_get (pc' := 71) (i := 9) (v := .int (i32 (ln))) rfl rfl (by decide) (rFv_eq (by decide) (show (uG (uG Gx 12 ((at1 - A 2 (ln).toNat))) 11 (0)) 9 = ln from ((hFx.1 9 rfl).trans (e_ln)))) rfl ?_
              refine jr_ldv (pc' := 72) (i := 4) (m := 3001) (z := ln) (y := le) rfl (by decide) rfl (by decide) (by omega) (by omega) rfl (show Ax 4 (ln).toNat = le from (congrFun (hFx.2 4 rfl) _).trans (e_le)) ?_
              refine jx_ld (pc' := 73) (l' := L21) (st' := [.ref 66, .int (i32 (le)), .ref 66]) rfl (jl_aloadn gL21_0) ?_
              refine jr_get (pc' := 76) (i := 5) (v := .ref 69) rfl rfl (by decide) rfl rfl ?_
              refine jx_ld (pc' := 77) (l' := L21) (st' := [.ref 66, .ref 69, .int (i32 (le)), .ref 66]) rfl (jl_aloadn gL21_0) ?_
              refine jr_get (pc' := 80) (i := 9) (v := .int (i32 (ln))) rfl rfl (by decide) (rFv_eq (by decide) (show (uG (uG Gx 12 ((at1 - A 2 (ln).toNat))) 11 (0)) 9 = ln from ((hFx.1 9 rfl).trans (e_ln)))) rfl ?_
              refine jr_ldv (pc' := 81) (i := 2) (m := 3001) (z := ln) (y := A 2 (ln).toNat) rfl (by decide) rfl (by decide) (by omega) (by omega) rfl (show Ax 2 (ln).toNat = A 2 (ln).toNat from (congrFun (hFx.2 2 rfl) _)) ?_
              refine jx_sub (pc' := 82) rfl rfl ?_
              refine jr_put (pc' := 85) (i := 12) (z := (le - A 2 (ln).toNat)) rfl rfl (by decide) rfl rfl rfl rfl rfl rfl ?_
              have hW105 : Wk (uG (uG (uG Gx 12 ((at1 - A 2 (ln).toNat))) 11 (0)) 12 ((le - A 2 (ln).toNat))) Ax := Wk_g hW103 (show (-3000 : Int) ≤ (le - A 2 (ln).toNat) by omega) (show (le - A 2 (ln).toNat) ≤ (3002 : Int) by omega)
              have hF106 := Fr_g (z := (le - A 2 (ln).toNat)) (i := 12) hF104 (by decide)
              refine jx_go (tg := 135) rfl rfl ?_
              refine jx_rt (v := none) rfl rfl rfl rfl rfl rfl ?_
              have z107 := tz_f (0)
              exact ⟨_, _, at1, 0, rfl, rfl, hW105, hF106, (ex_at1), rfl, by omega, by omega, by omega, trivial⟩
          · have _q : True := trivial
            refine jx_ld (pc' := 53) (l' := jSto1 L 1 (.int (i32 (r14)))) (st' := []) rfl rfl ?_
            obtain ⟨L108, eL108⟩ : ∃ q, q = jSto1 L 1 (.int (i32 (r14))) := ⟨_, rfl⟩
            rw [← eL108]
            have gL108_0 : jGet L108 0 = some (.ref 66) := eL108 ▸ jg_ne (by decide) gL_0 rfl
            have gL108_1 : jGet L108 1 = some (.int (i32 (r14))) := eL108 ▸ jg_eq
            refine jx_ld (pc' := 54) (l' := L108) (st' := [.int (i32 (r14))]) rfl (jl_iloadn gL108_1) ?_
            refine jx_if_ne (pc' := 57) (tg := 88) rfl rfl rfl (by omega) (by omega) (fun h109 => ?_) (fun h109 => ?_)
            · have _q := h109
              refine jx_ld (pc' := 89) (l' := L108) (st' := [.int (i32 (r14))]) rfl (jl_iloadn gL108_1) ?_
              refine jx_st (pc' := 92) (as := [.int (i32 (r14))]) (st := []) rfl rfl ⟨rfl, Nat.le_of_ble_eq_true rfl⟩ rfl rfl rfl (c_isSmall (dd := d) (hd := by omega) (v := r14)   (h_v := by omega)  ) (fun o V' hq => ?_)
              obtain ⟨r110, rfl, rfl, b111, q112⟩ := hq
              refine .inr ⟨_, rfl, ?_⟩
              rcases q112 with ⟨rfl, a113, a114⟩ | ⟨rfl, a115⟩
              · have _q : True := trivial
                refine jx_if_eq (pc' := 95) (tg := 102) rfl rfl rfl (by omega) (by omega) (fun h116 => ?_) (fun h116 => ?_)
                · have _q := h116
                  exact absurd h116 (by omega)
                · have _q := h116
                  refine jx_ld (pc' := 96) (l' := L108) (st' := [.ref 66]) rfl (jl_aloadn gL108_0) ?_
                  refine jx_vr (pc' := 99) (as := []) (st := []) rfl rfl rfl rfl ⟨rfl, rfl, Nat.le_of_ble_eq_true rfl⟩ rfl rfl (c_nameToken (dd := d) (hd := by omega) (hW := hW12)  (ln := ln) (e_ln := show (uG Gx 12 ((at1 - A 2 (ln).toNat))) 9 = ln from ((hFx.1 9 rfl).trans (e_ln))) (le := le) (e_le := show Ax 4 (ln).toNat = le from (congrFun (hFx.2 4 rfl) _).trans (e_le)) (at0 := at1) (e_at0 := show (uG Gx 12 ((at1 - A 2 (ln).toNat))) 10 = at1 from (ex_at1)) (tx := A 0 (at1).toNat) (e_tx := show Ax 0 (at1).toNat = A 0 (at1).toNat from (congrFun (hFx.2 0 rfl) _))    (p_0 := by omega) (p_1 := by omega)) (fun o V' hq => ?_)
                  obtain ⟨G117, A118, at2_119, tk2_120, rfl, rfl, hW121, hF122, e123, e124, p125, p126, p127, -⟩ := hq
                  have hF129 := Fr_tr hF13 hF122 (Fr_sub (by decide)) (Fr_sub (by decide))
                  have bat2_119 : (0 : Int) ≤ at2_119 ∧ at2_119 ≤ 3002 := e123 ▸ hW121.1 10
                  have ztk2_120 := tz_b tk2_120
                  have btk2_120 : (0 : Int) ≤ tk2_120 ∧ tk2_120 ≤ 5 := e124 ▸ hW121.1 11
                  refine .inl ⟨rfl, ?_⟩
                  refine jx_go (tg := 135) rfl rfl ?_
                  refine jx_rt (v := none) rfl rfl rfl rfl rfl rfl ?_
                  have z130 := tz_f (tk2_120)
                  exact ⟨_, _, at2_119, tk2_120, rfl, rfl, hW121, hF129, (e123), (e124), by omega, by omega, by omega, trivial⟩
              · have _q : True := trivial
                refine jx_if_eq (pc' := 95) (tg := 102) rfl rfl rfl (by omega) (by omega) (fun h131 => ?_) (fun h131 => ?_)
                · have _q := h131
                  refine jx_ld (pc' := 103) (l' := L108) (st' := [.int (i32 (r14))]) rfl (jl_iloadn gL108_1) ?_
                  refine jx_st (pc' := 106) (as := [.int (i32 (r14))]) (st := []) rfl rfl ⟨rfl, Nat.le_of_ble_eq_true rfl⟩ rfl rfl rfl (c_isBig (dd := d) (hd := by omega) (v := r14)   (h_v := by omega)  ) (fun o V' hq => ?_)
                  obtain ⟨r132, rfl, rfl, b133, q134⟩ := hq
                  refine .inr ⟨_, rfl, ?_⟩
                  rcases q134 with ⟨rfl, a135, a136⟩ | ⟨rfl, a137⟩
                  · have _q : True := trivial
                    refine jx_if_eq (pc' := 109) (tg := 116) rfl rfl rfl (by omega) (by omega) (fun h138 => ?_) (fun h138 => ?_)
                    · have _q := h138
                      exact absurd h138 (by omega)
                    · have _q := h138
                      refine jx_ld (pc' := 110) (l' := L108) (st' := [.ref 66]) rfl (jl_aloadn gL108_0) ?_
                      refine jx_vr (pc' := 113) (as := []) (st := []) rfl rfl rfl rfl ⟨rfl, rfl, Nat.le_of_ble_eq_true rfl⟩ rfl rfl (c_keyToken (dd := d) (hd := by omega) (hW := hW12)  (ln := ln) (e_ln := show (uG Gx 12 ((at1 - A 2 (ln).toNat))) 9 = ln from ((hFx.1 9 rfl).trans (e_ln))) (le := le) (e_le := show Ax 4 (ln).toNat = le from (congrFun (hFx.2 4 rfl) _).trans (e_le)) (at0 := at1) (e_at0 := show (uG Gx 12 ((at1 - A 2 (ln).toNat))) 10 = at1 from (ex_at1)) (tx := A 0 (at1).toNat) (e_tx := show Ax 0 (at1).toNat = A 0 (at1).toNat from (congrFun (hFx.2 0 rfl) _))    (p_0 := by omega) (p_1 := by omega)) (fun o V' hq => ?_)
                      obtain ⟨G139, A140, at2_141, tk2_142, rfl, rfl, hW143, hF144, e145, e146, p147, p148, p149, -⟩ := hq
                      have hF151 := Fr_tr hF13 hF144 (Fr_sub (by decide)) (Fr_sub (by decide))
                      have bat2_141 : (0 : Int) ≤ at2_141 ∧ at2_141 ≤ 3002 := e145 ▸ hW143.1 10
                      have ztk2_142 := tz_b tk2_142
                      have btk2_142 : (0 : Int) ≤ tk2_142 ∧ tk2_142 ≤ 5 := e146 ▸ hW143.1 11
                      refine .inl ⟨rfl, ?_⟩
                      refine jx_go (tg := 135) rfl rfl ?_
                      refine jx_rt (v := none) rfl rfl rfl rfl rfl rfl ?_
                      have z152 := tz_f (tk2_142)
                      exact ⟨_, _, at2_141, tk2_142, rfl, rfl, hW143, hF151, (e145), (e146), by omega, by omega, by omega, trivial⟩
                  · have _q : True := trivial
                    refine jx_if_eq (pc' := 109) (tg := 116) rfl rfl rfl (by omega) (by omega) (fun h153 => ?_) (fun h153 => ?_)
                    · have _q := h153
                      refine jx_ld (pc' := 117) (l' := L108) (st' := [.int (i32 (r14))]) rfl (jl_iloadn gL108_1) ?_
                      refine jx_st (pc' := 120) (as := [.int (i32 (r14))]) (st := []) rfl rfl ⟨rfl, Nat.le_of_ble_eq_true rfl⟩ rfl rfl rfl (c_isDigit (dd := d) (hd := by omega) (v := r14)   (h_v := by omega)  ) (fun o V' hq => ?_)
                      obtain ⟨r154, rfl, rfl, b155, q156⟩ := hq
                      refine .inr ⟨_, rfl, ?_⟩
                      rcases q156 with ⟨rfl, a157, a158⟩ | ⟨rfl, a159⟩
                      · have _q : True := trivial
                        refine jx_if_eq (pc' := 123) (tg := 130) rfl rfl rfl (by omega) (by omega) (fun h160 => ?_) (fun h160 => ?_)
                        · have _q := h160
                          exact absurd h160 (by omega)
                        · have _q := h160
                          refine jx_ld (pc' := 124) (l' := L108) (st' := [.ref 66]) rfl (jl_aloadn gL108_0) ?_
                          refine jx_vr (pc' := 127) (as := []) (st := []) rfl rfl rfl rfl ⟨rfl, rfl, Nat.le_of_ble_eq_true rfl⟩ rfl rfl (c_numberToken (dd := d) (hd := by omega) (hW := hW12)  (ln := ln) (e_ln := show (uG Gx 12 ((at1 - A 2 (ln).toNat))) 9 = ln from ((hFx.1 9 rfl).trans (e_ln))) (le := le) (e_le := show Ax 4 (ln).toNat = le from (congrFun (hFx.2 4 rfl) _).trans (e_le)) (at0 := at1) (e_at0 := show (uG Gx 12 ((at1 - A 2 (ln).toNat))) 10 = at1 from (ex_at1)) (tx := A 0 (at1).toNat) (e_tx := show Ax 0 (at1).toNat = A 0 (at1).toNat from (congrFun (hFx.2 0 rfl) _))    (p_0 := by omega) (p_1 := by omega)) (fun o V' hq => ?_)
                          obtain ⟨G161, A162, at2_163, tk2_164, rfl, rfl, hW165, hF166, e167, e168, p169, p170, p171, -⟩ := hq
                          have hF173 := Fr_tr hF13 hF166 (Fr_sub (by decide)) (Fr_sub (by decide))
                          have bat2_163 : (0 : Int) ≤ at2_163 ∧ at2_163 ≤ 3002 := e167 ▸ hW165.1 10
                          have ztk2_164 := tz_b tk2_164
                          have btk2_164 : (0 : Int) ≤ tk2_164 ∧ tk2_164 ≤ 5 := e168 ▸ hW165.1 11
                          refine .inl ⟨rfl, ?_⟩
                          refine jx_go (tg := 135) rfl rfl ?_
                          refine jx_rt (v := none) rfl rfl rfl rfl rfl rfl ?_
                          have z174 := tz_f (tk2_164)
                          exact ⟨_, _, at2_163, tk2_164, rfl, rfl, hW165, hF173, (e167), (e168), by omega, by omega, by omega, trivial⟩
                      · have _q : True := trivial
                        refine jx_if_eq (pc' := 123) (tg := 130) rfl rfl rfl (by omega) (by omega) (fun h175 => ?_) (fun h175 => ?_)
                        · have _q := h175
                          refine jx_ld (pc' := 131) (l' := L108) (st' := [.ref 66]) rfl (jl_aloadn gL108_0) ?_
                          refine jx_ld (pc' := 132) (l' := L108) (st' := [.int (i32 (r14)), .ref 66]) rfl (jl_iloadn gL108_1) ?_
                          refine jx_vr (pc' := 135) (as := [.int (i32 (r14))]) (st := []) rfl rfl rfl rfl ⟨rfl, rfl, Nat.le_of_ble_eq_true rfl⟩ rfl rfl (c_signToken (dd := d) (hd := by omega) (hW := hW12) (c := r14) (ln := ln) (e_ln := show (uG Gx 12 ((at1 - A 2 (ln).toNat))) 9 = ln from ((hFx.1 9 rfl).trans (e_ln))) (le := le) (e_le := show Ax 4 (ln).toNat = le from (congrFun (hFx.2 4 rfl) _).trans (e_le)) (at0 := at1) (e_at0 := show (uG Gx 12 ((at1 - A 2 (ln).toNat))) 10 = at1 from (ex_at1))  (h_c := by omega)  (p_0 := by omega) (p_1 := by omega)) (fun o V' hq => ?_)
                          obtain ⟨G176, A177, at2_178, tk2_179, rfl, rfl, hW180, hF181, e182, e183, p184, p185, p186, -⟩ := hq
                          have hF188 := Fr_tr hF13 hF181 (Fr_sub (by decide)) (Fr_sub (by decide))
                          have bat2_178 : (0 : Int) ≤ at2_178 ∧ at2_178 ≤ 3002 := e182 ▸ hW180.1 10
                          have ztk2_179 := tz_b tk2_179
                          have btk2_179 : (0 : Int) ≤ tk2_179 ∧ tk2_179 ≤ 5 := e183 ▸ hW180.1 11
                          refine .inl ⟨rfl, ?_⟩
                          refine jx_rt (v := none) rfl rfl rfl rfl rfl rfl ?_
                          have z189 := tz_f (tk2_179)
                          exact ⟨_, _, at2_178, tk2_179, rfl, rfl, hW180, hF188, (e182), (e183), by omega, by omega, by omega, trivial⟩
                        · have _q := h175
                          exact absurd h175 (by omega)
                    · have _q := h153
                      exact absurd h153 (by omega)
                · have _q := h131
                  exact absurd h131 (by omega)
            · have _q := h109
              refine jx_ld (pc' := 58) (l' := L108) (st' := [.ref 66]) rfl (jl_aloadn gL108_0) ?_
              refine jx_ar (pc' := 59) (st' := [.int (i32 (0)), .ref 66]) rfl rfl rfl rfl ?_
              refine jr_put (pc' := 62) (i := 11) (z := 0) rfl rfl (by decide) rfl rfl rfl rfl rfl rfl ?_
              have hW190 : Wk (uG (uG Gx 12 ((at1 - A 2 (ln).toNat))) 11 (0)) Ax := Wk_g hW12 (show (0 : Int) ≤ 0 by omega) (show 0 ≤ (5 : Int) by omega)
              have hF191 := Fr_g (z := 0) (i := 11) hF13 (by decide)
              refine jx_ld (pc' := 63) (l' := L108) (st' := [.ref 66]) rfl (jl_aloadn gL108_0) ?_
              refine jx_ld (pc' := 64) (l' := L108) (st' := [.ref 66, .ref 66]) rfl (jl_aloadn gL108_0) ?_
              refine jr_get (pc' := 67) (i := 7) (v := .ref 71) rfl rfl (by decide) rfl rfl ?_
              refine jx_ld (pc' := 68) (l' := L108) (st' := [.ref 66, .ref 71, .ref 66]) rfl (jl_aloadn gL108_0) ?_
              refine jr_get (pc' := 71) (i := 9) (v := .int (i32 (ln))) rfl rfl (by decide) (rFv_eq (by decide) (show (uG (uG Gx 12 ((at1 - A 2 (ln).toNat))) 11 (0)) 9 = ln from ((hFx.1 9 rfl).trans (e_ln)))) rfl ?_
              refine jr_ldv (pc' := 72) (i := 4) (m := 3001) (z := ln) (y := le) rfl (by decide) rfl (by decide) (by omega) (by omega) rfl (show Ax 4 (ln).toNat = le from (congrFun (hFx.2 4 rfl) _).trans (e_le)) ?_
              refine jx_ld (pc' := 73) (l' := L108) (st' := [.ref 66, .int (i32 (le)), .ref 66]) rfl (jl_aloadn gL108_0) ?_
              refine jr_get (pc' := 76) (i := 5) (v := .ref 69) rfl rfl (by decide) rfl rfl ?_
              refine jx_ld (pc' := 77) (l' := L108) (st' := [.ref 66, .ref 69, .int (i32 (le)), .ref 66]) rfl (jl_aloadn gL108_0) ?_
              refine jr_get (pc' := 80) (i := 9) (v := .int (i32 (ln))) rfl rfl (by decide) (rFv_eq (by decide) (show (uG (uG Gx 12 ((at1 - A 2 (ln).toNat))) 11 (0)) 9 = ln from ((hFx.1 9 rfl).trans (e_ln)))) rfl ?_
              refine jr_ldv (pc' := 81) (i := 2) (m := 3001) (z := ln) (y := A 2 (ln).toNat) rfl (by decide) rfl (by decide) (by omega) (by omega) rfl (show Ax 2 (ln).toNat = A 2 (ln).toNat from (congrFun (hFx.2 2 rfl) _)) ?_
              refine jx_sub (pc' := 82) rfl rfl ?_
              refine jr_put (pc' := 85) (i := 12) (z := (le - A 2 (ln).toNat)) rfl rfl (by decide) rfl rfl rfl rfl rfl rfl ?_
              have hW192 : Wk (uG (uG (uG Gx 12 ((at1 - A 2 (ln).toNat))) 11 (0)) 12 ((le - A 2 (ln).toNat))) Ax := Wk_g hW190 (show (-3000 : Int) ≤ (le - A 2 (ln).toNat) by omega) (show (le - A 2 (ln).toNat) ≤ (3002 : Int) by omega)
              have hF193 := Fr_g (z := (le - A 2 (ln).toNat)) (i := 12) hF191 (by decide)
              refine jx_go (tg := 135) rfl rfl ?_
              refine jx_rt (v := none) rfl rfl rfl rfl rfl rfl ?_
              have z194 := tz_f (0)
              exact ⟨_, _, at1, 0, rfl, rfl, hW192, hF193, (ex_at1), rfl, by omega, by omega, by omega, trivial⟩
        · have _q := h10
          refine jx_ld (pc' := 14) (l' := L) (st' := [.ref 66]) rfl (jl_aloadn gL_0) ?_
          refine jx_ar (pc' := 15) (st' := [.ref 66, .ref 66]) rfl rfl rfl rfl ?_
          refine jr_get (pc' := 18) (i := 10) (v := .int (i32 (at1))) rfl rfl (by decide) (rFv_eq (by decide) (show Gx 10 = at1 from (ex_at1))) rfl ?_
          refine jx_ar (pc' := 19) (st' := [.int (i32 (1)), .int (i32 (at1)), .ref 66]) rfl rfl rfl rfl ?_
          refine jx_add (pc' := 20) rfl rfl ?_
          refine jr_put (pc' := 23) (i := 10) (z := (at1 + 1)) rfl rfl (by decide) rfl rfl rfl rfl rfl rfl ?_
          have hW195 : Wk (uG Gx 10 ((at1 + 1))) Ax := Wk_g hWx (show (0 : Int) ≤ (at1 + 1) by omega) (show (at1 + 1) ≤ (3002 : Int) by omega)
          have hF196 := Fr_g (z := (at1 + 1)) (i := 10) hFx (by decide)
          refine jx_go (tg := 0) rfl rfl ?_
          exact ih _ (by omega) L (uG Gx 10 ((at1 + 1))) Ax ((at1 + 1)) rfl gL_0 hW195 hF196 (rfl) (by omega) (by omega)
      · have _q : True := trivial
        refine jx_ar (pc' := 10) (st' := [.int (i32 (32)), .int (i32 (r3))]) rfl rfl rfl rfl ?_
        refine jx_icmp_ne (pc' := 13) (tg := 26) rfl rfl rfl (by omega) (by omega) (by omega) (by omega) (fun h197 => ?_) (fun h197 => ?_)
        · have _q := h197
          refine jx_ld (pc' := 27) (l' := L) (st' := [.ref 66]) rfl (jl_aloadn gL_0) ?_
          refine jx_ld (pc' := 28) (l' := L) (st' := [.ref 66, .ref 66]) rfl (jl_aloadn gL_0) ?_
          refine jr_get (pc' := 31) (i := 10) (v := .int (i32 (at1))) rfl rfl (by decide) (rFv_eq (by decide) (show Gx 10 = at1 from (ex_at1))) rfl ?_
          refine jx_ld (pc' := 32) (l' := L) (st' := [.ref 66, .int (i32 (at1)), .ref 66]) rfl (jl_aloadn gL_0) ?_
          refine jr_get (pc' := 35) (i := 5) (v := .ref 69) rfl rfl (by decide) rfl rfl ?_
          refine jx_ld (pc' := 36) (l' := L) (st' := [.ref 66, .ref 69, .int (i32 (at1)), .ref 66]) rfl (jl_aloadn gL_0) ?_
          refine jr_get (pc' := 39) (i := 9) (v := .int (i32 (ln))) rfl rfl (by decide) (rFv_eq (by decide) (show Gx 9 = ln from ((hFx.1 9 rfl).trans (e_ln)))) rfl ?_
          have b198 : (0 : Int) ≤ A 2 (ln).toNat ∧ A 2 (ln).toNat ≤ 3000 := hW.2 2 _
          refine jr_ldv (pc' := 40) (i := 2) (m := 3001) (z := ln) (y := A 2 (ln).toNat) rfl (by decide) rfl (by decide) (by omega) (by omega) rfl (show Ax 2 (ln).toNat = A 2 (ln).toNat from (congrFun (hFx.2 2 rfl) _)) ?_
          refine jx_sub (pc' := 41) rfl rfl ?_
          refine jr_put (pc' := 44) (i := 12) (z := (at1 - A 2 (ln).toNat)) rfl rfl (by decide) rfl rfl rfl rfl rfl rfl ?_
          have hW199 : Wk (uG Gx 12 ((at1 - A 2 (ln).toNat))) Ax := Wk_g hWx (show (-3000 : Int) ≤ (at1 - A 2 (ln).toNat) by omega) (show (at1 - A 2 (ln).toNat) ≤ (3002 : Int) by omega)
          have hF200 := Fr_g (z := (at1 - A 2 (ln).toNat)) (i := 12) hFx (by decide)
          refine jx_ld (pc' := 45) (l' := L) (st' := [.ref 66]) rfl (jl_aloadn gL_0) ?_
          refine jx_ld (pc' := 46) (l' := L) (st' := [.ref 66, .ref 66]) rfl (jl_aloadn gL_0) ?_
          refine jr_get (pc' := 49) (i := 10) (v := .int (i32 (at1))) rfl rfl (by decide) (rFv_eq (by decide) (show (uG Gx 12 ((at1 - A 2 (ln).toNat))) 10 = at1 from (ex_at1))) rfl ?_
          refine jx_vr (pc' := 52) (as := [.int (i32 (at1))]) (st := []) rfl rfl rfl rfl ⟨rfl, rfl, Nat.le_of_ble_eq_true rfl⟩ rfl rfl (c_sign (dd := d) (hd := by omega) (hW := hW199) (k := at1) (ln := ln) (e_ln := show (uG Gx 12 ((at1 - A 2 (ln).toNat))) 9 = ln from ((hFx.1 9 rfl).trans (e_ln))) (le := le) (e_le := show Ax 4 (ln).toNat = le from (congrFun (hFx.2 4 rfl) _).trans (e_le)) (tx := A 0 (at1).toNat) (e_tx := show Ax 0 (at1).toNat = A 0 (at1).toNat from (congrFun (hFx.2 0 rfl) _))  (h_k := by omega)  (p_0 := by omega)) (fun o V' hq => ?_)
          obtain ⟨r201, rfl, rfl, b202, q203⟩ := hq
          refine .inr ⟨_, rfl, ?_⟩
          rcases q203 with ⟨a204, a205⟩ | ⟨a206, a207⟩
          · have _q : True := trivial
            refine jx_ld (pc' := 53) (l' := jSto1 L 1 (.int (i32 (r201)))) (st' := []) rfl rfl ?_
            obtain ⟨L208, eL208⟩ : ∃ q, q = jSto1 L 1 (.int (i32 (r201))) := ⟨_, rfl⟩
            rw [← eL208]
            have gL208_0 : jGet L208 0 = some (.ref 66) := eL208 ▸ jg_ne (by decide) gL_0 rfl
            have gL208_1 : jGet L208 1 = some (.int (i32 (r201))) := eL208 ▸ jg_eq
            refine jx_ld (pc' := 54) (l' := L208) (st' := [.int (i32 (r201))]) rfl (jl_iloadn gL208_1) ?_
            refine jx_if_ne (pc' := 57) (tg := 88) rfl rfl rfl (by omega) (by omega) (fun h209 => ?_) (fun h209 => ?_)
            · have _q := h209
              refine jx_ld (pc' := 89) (l' := L208) (st' := [.int (i32 (r201))]) rfl (jl_iloadn gL208_1) ?_
              refine jx_st (pc' := 92) (as := [.int (i32 (r201))]) (st := []) rfl rfl ⟨rfl, Nat.le_of_ble_eq_true rfl⟩ rfl rfl rfl (c_isSmall (dd := d) (hd := by omega) (v := r201)   (h_v := by omega)  ) (fun o V' hq => ?_)
              obtain ⟨r210, rfl, rfl, b211, q212⟩ := hq
              refine .inr ⟨_, rfl, ?_⟩
              rcases q212 with ⟨rfl, a213, a214⟩ | ⟨rfl, a215⟩
              · have _q : True := trivial
                refine jx_if_eq (pc' := 95) (tg := 102) rfl rfl rfl (by omega) (by omega) (fun h216 => ?_) (fun h216 => ?_)
                · have _q := h216
                  exact absurd h216 (by omega)
                · have _q := h216
                  refine jx_ld (pc' := 96) (l' := L208) (st' := [.ref 66]) rfl (jl_aloadn gL208_0) ?_
                  refine jx_vr (pc' := 99) (as := []) (st := []) rfl rfl rfl rfl ⟨rfl, rfl, Nat.le_of_ble_eq_true rfl⟩ rfl rfl (c_nameToken (dd := d) (hd := by omega) (hW := hW199)  (ln := ln) (e_ln := show (uG Gx 12 ((at1 - A 2 (ln).toNat))) 9 = ln from ((hFx.1 9 rfl).trans (e_ln))) (le := le) (e_le := show Ax 4 (ln).toNat = le from (congrFun (hFx.2 4 rfl) _).trans (e_le)) (at0 := at1) (e_at0 := show (uG Gx 12 ((at1 - A 2 (ln).toNat))) 10 = at1 from (ex_at1)) (tx := A 0 (at1).toNat) (e_tx := show Ax 0 (at1).toNat = A 0 (at1).toNat from (congrFun (hFx.2 0 rfl) _))    (p_0 := by omega) (p_1 := by omega)) (fun o V' hq => ?_)
                  obtain ⟨G217, A218, at2_219, tk2_220, rfl, rfl, hW221, hF222, e223, e224, p225, p226, p227, -⟩ := hq
                  have hF229 := Fr_tr hF200 hF222 (Fr_sub (by decide)) (Fr_sub (by decide))
                  have bat2_219 : (0 : Int) ≤ at2_219 ∧ at2_219 ≤ 3002 := e223 ▸ hW221.1 10
                  have ztk2_220 := tz_b tk2_220
                  have btk2_220 : (0 : Int) ≤ tk2_220 ∧ tk2_220 ≤ 5 := e224 ▸ hW221.1 11
                  refine .inl ⟨rfl, ?_⟩
                  refine jx_go (tg := 135) rfl rfl ?_
                  refine jx_rt (v := none) rfl rfl rfl rfl rfl rfl ?_
                  have z230 := tz_f (tk2_220)
                  exact ⟨_, _, at2_219, tk2_220, rfl, rfl, hW221, hF229, (e223), (e224), by omega, by omega, by omega, trivial⟩
              · have _q : True := trivial
                refine jx_if_eq (pc' := 95) (tg := 102) rfl rfl rfl (by omega) (by omega) (fun h231 => ?_) (fun h231 => ?_)
                · have _q := h231
                  refine jx_ld (pc' := 103) (l' := L208) (st' := [.int (i32 (r201))]) rfl (jl_iloadn gL208_1) ?_
                  refine jx_st (pc' := 106) (as := [.int (i32 (r201))]) (st := []) rfl rfl ⟨rfl, Nat.le_of_ble_eq_true rfl⟩ rfl rfl rfl (c_isBig (dd := d) (hd := by omega) (v := r201)   (h_v := by omega)  ) (fun o V' hq => ?_)
                  obtain ⟨r232, rfl, rfl, b233, q234⟩ := hq
                  refine .inr ⟨_, rfl, ?_⟩
                  rcases q234 with ⟨rfl, a235, a236⟩ | ⟨rfl, a237⟩
                  · have _q : True := trivial
                    refine jx_if_eq (pc' := 109) (tg := 116) rfl rfl rfl (by omega) (by omega) (fun h238 => ?_) (fun h238 => ?_)
                    · have _q := h238
                      exact absurd h238 (by omega)
                    · have _q := h238
                      refine jx_ld (pc' := 110) (l' := L208) (st' := [.ref 66]) rfl (jl_aloadn gL208_0) ?_
                      refine jx_vr (pc' := 113) (as := []) (st := []) rfl rfl rfl rfl ⟨rfl, rfl, Nat.le_of_ble_eq_true rfl⟩ rfl rfl (c_keyToken (dd := d) (hd := by omega) (hW := hW199)  (ln := ln) (e_ln := show (uG Gx 12 ((at1 - A 2 (ln).toNat))) 9 = ln from ((hFx.1 9 rfl).trans (e_ln))) (le := le) (e_le := show Ax 4 (ln).toNat = le from (congrFun (hFx.2 4 rfl) _).trans (e_le)) (at0 := at1) (e_at0 := show (uG Gx 12 ((at1 - A 2 (ln).toNat))) 10 = at1 from (ex_at1)) (tx := A 0 (at1).toNat) (e_tx := show Ax 0 (at1).toNat = A 0 (at1).toNat from (congrFun (hFx.2 0 rfl) _))    (p_0 := by omega) (p_1 := by omega)) (fun o V' hq => ?_)
                      obtain ⟨G239, A240, at2_241, tk2_242, rfl, rfl, hW243, hF244, e245, e246, p247, p248, p249, -⟩ := hq
                      have hF251 := Fr_tr hF200 hF244 (Fr_sub (by decide)) (Fr_sub (by decide))
                      have bat2_241 : (0 : Int) ≤ at2_241 ∧ at2_241 ≤ 3002 := e245 ▸ hW243.1 10
                      have ztk2_242 := tz_b tk2_242
                      have btk2_242 : (0 : Int) ≤ tk2_242 ∧ tk2_242 ≤ 5 := e246 ▸ hW243.1 11
                      refine .inl ⟨rfl, ?_⟩
                      refine jx_go (tg := 135) rfl rfl ?_
                      refine jx_rt (v := none) rfl rfl rfl rfl rfl rfl ?_
                      have z252 := tz_f (tk2_242)
                      exact ⟨_, _, at2_241, tk2_242, rfl, rfl, hW243, hF251, (e245), (e246), by omega, by omega, by omega, trivial⟩
                  · have _q : True := trivial
                    refine jx_if_eq (pc' := 109) (tg := 116) rfl rfl rfl (by omega) (by omega) (fun h253 => ?_) (fun h253 => ?_)
                    · have _q := h253
                      refine jx_ld (pc' := 117) (l' := L208) (st' := [.int (i32 (r201))]) rfl (jl_iloadn gL208_1) ?_
                      refine jx_st (pc' := 120) (as := [.int (i32 (r201))]) (st := []) rfl rfl ⟨rfl, Nat.le_of_ble_eq_true rfl⟩ rfl rfl rfl (c_isDigit (dd := d) (hd := by omega) (v := r201)   (h_v := by omega)  ) (fun o V' hq => ?_)
                      obtain ⟨r254, rfl, rfl, b255, q256⟩ := hq
                      refine .inr ⟨_, rfl, ?_⟩
                      rcases q256 with ⟨rfl, a257, a258⟩ | ⟨rfl, a259⟩
                      · have _q : True := trivial
                        refine jx_if_eq (pc' := 123) (tg := 130) rfl rfl rfl (by omega) (by omega) (fun h260 => ?_) (fun h260 => ?_)
                        · have _q := h260
                          exact absurd h260 (by omega)
                        · have _q := h260
                          refine jx_ld (pc' := 124) (l' := L208) (st' := [.ref 66]) rfl (jl_aloadn gL208_0) ?_
                          refine jx_vr (pc' := 127) (as := []) (st := []) rfl rfl rfl rfl ⟨rfl, rfl, Nat.le_of_ble_eq_true rfl⟩ rfl rfl (c_numberToken (dd := d) (hd := by omega) (hW := hW199)  (ln := ln) (e_ln := show (uG Gx 12 ((at1 - A 2 (ln).toNat))) 9 = ln from ((hFx.1 9 rfl).trans (e_ln))) (le := le) (e_le := show Ax 4 (ln).toNat = le from (congrFun (hFx.2 4 rfl) _).trans (e_le)) (at0 := at1) (e_at0 := show (uG Gx 12 ((at1 - A 2 (ln).toNat))) 10 = at1 from (ex_at1)) (tx := A 0 (at1).toNat) (e_tx := show Ax 0 (at1).toNat = A 0 (at1).toNat from (congrFun (hFx.2 0 rfl) _))    (p_0 := by omega) (p_1 := by omega)) (fun o V' hq => ?_)
                          obtain ⟨G261, A262, at2_263, tk2_264, rfl, rfl, hW265, hF266, e267, e268, p269, p270, p271, -⟩ := hq
                          have hF273 := Fr_tr hF200 hF266 (Fr_sub (by decide)) (Fr_sub (by decide))
                          have bat2_263 : (0 : Int) ≤ at2_263 ∧ at2_263 ≤ 3002 := e267 ▸ hW265.1 10
                          have ztk2_264 := tz_b tk2_264
                          have btk2_264 : (0 : Int) ≤ tk2_264 ∧ tk2_264 ≤ 5 := e268 ▸ hW265.1 11
                          refine .inl ⟨rfl, ?_⟩
                          refine jx_go (tg := 135) rfl rfl ?_
                          refine jx_rt (v := none) rfl rfl rfl rfl rfl rfl ?_
                          have z274 := tz_f (tk2_264)
                          exact ⟨_, _, at2_263, tk2_264, rfl, rfl, hW265, hF273, (e267), (e268), by omega, by omega, by omega, trivial⟩
                      · have _q : True := trivial
                        refine jx_if_eq (pc' := 123) (tg := 130) rfl rfl rfl (by omega) (by omega) (fun h275 => ?_) (fun h275 => ?_)
                        · have _q := h275
                          refine jx_ld (pc' := 131) (l' := L208) (st' := [.ref 66]) rfl (jl_aloadn gL208_0) ?_
                          refine jx_ld (pc' := 132) (l' := L208) (st' := [.int (i32 (r201)), .ref 66]) rfl (jl_iloadn gL208_1) ?_
                          refine jx_vr (pc' := 135) (as := [.int (i32 (r201))]) (st := []) rfl rfl rfl rfl ⟨rfl, rfl, Nat.le_of_ble_eq_true rfl⟩ rfl rfl (c_signToken (dd := d) (hd := by omega) (hW := hW199) (c := r201) (ln := ln) (e_ln := show (uG Gx 12 ((at1 - A 2 (ln).toNat))) 9 = ln from ((hFx.1 9 rfl).trans (e_ln))) (le := le) (e_le := show Ax 4 (ln).toNat = le from (congrFun (hFx.2 4 rfl) _).trans (e_le)) (at0 := at1) (e_at0 := show (uG Gx 12 ((at1 - A 2 (ln).toNat))) 10 = at1 from (ex_at1))  (h_c := by omega)  (p_0 := by omega) (p_1 := by omega)) (fun o V' hq => ?_)
                          obtain ⟨G276, A277, at2_278, tk2_279, rfl, rfl, hW280, hF281, e282, e283, p284, p285, p286, -⟩ := hq
                          have hF288 := Fr_tr hF200 hF281 (Fr_sub (by decide)) (Fr_sub (by decide))
                          have bat2_278 : (0 : Int) ≤ at2_278 ∧ at2_278 ≤ 3002 := e282 ▸ hW280.1 10
                          have ztk2_279 := tz_b tk2_279
                          have btk2_279 : (0 : Int) ≤ tk2_279 ∧ tk2_279 ≤ 5 := e283 ▸ hW280.1 11
                          refine .inl ⟨rfl, ?_⟩
                          refine jx_rt (v := none) rfl rfl rfl rfl rfl rfl ?_
                          have z289 := tz_f (tk2_279)
                          exact ⟨_, _, at2_278, tk2_279, rfl, rfl, hW280, hF288, (e282), (e283), by omega, by omega, by omega, trivial⟩
                        · have _q := h275
                          exact absurd h275 (by omega)
                    · have _q := h253
                      exact absurd h253 (by omega)
                · have _q := h231
                  exact absurd h231 (by omega)
            · have _q := h209
              refine jx_ld (pc' := 58) (l' := L208) (st' := [.ref 66]) rfl (jl_aloadn gL208_0) ?_
              refine jx_ar (pc' := 59) (st' := [.int (i32 (0)), .ref 66]) rfl rfl rfl rfl ?_
              refine jr_put (pc' := 62) (i := 11) (z := 0) rfl rfl (by decide) rfl rfl rfl rfl rfl rfl ?_
              have hW290 : Wk (uG (uG Gx 12 ((at1 - A 2 (ln).toNat))) 11 (0)) Ax := Wk_g hW199 (show (0 : Int) ≤ 0 by omega) (show 0 ≤ (5 : Int) by omega)
              have hF291 := Fr_g (z := 0) (i := 11) hF200 (by decide)
              refine jx_ld (pc' := 63) (l' := L208) (st' := [.ref 66]) rfl (jl_aloadn gL208_0) ?_
              refine jx_ld (pc' := 64) (l' := L208) (st' := [.ref 66, .ref 66]) rfl (jl_aloadn gL208_0) ?_
              refine jr_get (pc' := 67) (i := 7) (v := .ref 71) rfl rfl (by decide) rfl rfl ?_
              refine jx_ld (pc' := 68) (l' := L208) (st' := [.ref 66, .ref 71, .ref 66]) rfl (jl_aloadn gL208_0) ?_
              refine jr_get (pc' := 71) (i := 9) (v := .int (i32 (ln))) rfl rfl (by decide) (rFv_eq (by decide) (show (uG (uG Gx 12 ((at1 - A 2 (ln).toNat))) 11 (0)) 9 = ln from ((hFx.1 9 rfl).trans (e_ln)))) rfl ?_
              refine jr_ldv (pc' := 72) (i := 4) (m := 3001) (z := ln) (y := le) rfl (by decide) rfl (by decide) (by omega) (by omega) rfl (show Ax 4 (ln).toNat = le from (congrFun (hFx.2 4 rfl) _).trans (e_le)) ?_
              refine jx_ld (pc' := 73) (l' := L208) (st' := [.ref 66, .int (i32 (le)), .ref 66]) rfl (jl_aloadn gL208_0) ?_
              refine jr_get (pc' := 76) (i := 5) (v := .ref 69) rfl rfl (by decide) rfl rfl ?_
              refine jx_ld (pc' := 77) (l' := L208) (st' := [.ref 66, .ref 69, .int (i32 (le)), .ref 66]) rfl (jl_aloadn gL208_0) ?_
              refine jr_get (pc' := 80) (i := 9) (v := .int (i32 (ln))) rfl rfl (by decide) (rFv_eq (by decide) (show (uG (uG Gx 12 ((at1 - A 2 (ln).toNat))) 11 (0)) 9 = ln from ((hFx.1 9 rfl).trans (e_ln)))) rfl ?_
              refine jr_ldv (pc' := 81) (i := 2) (m := 3001) (z := ln) (y := A 2 (ln).toNat) rfl (by decide) rfl (by decide) (by omega) (by omega) rfl (show Ax 2 (ln).toNat = A 2 (ln).toNat from (congrFun (hFx.2 2 rfl) _)) ?_
              refine jx_sub (pc' := 82) rfl rfl ?_
              refine jr_put (pc' := 85) (i := 12) (z := (le - A 2 (ln).toNat)) rfl rfl (by decide) rfl rfl rfl rfl rfl rfl ?_
              have hW292 : Wk (uG (uG (uG Gx 12 ((at1 - A 2 (ln).toNat))) 11 (0)) 12 ((le - A 2 (ln).toNat))) Ax := Wk_g hW290 (show (-3000 : Int) ≤ (le - A 2 (ln).toNat) by omega) (show (le - A 2 (ln).toNat) ≤ (3002 : Int) by omega)
              have hF293 := Fr_g (z := (le - A 2 (ln).toNat)) (i := 12) hF291 (by decide)
              refine jx_go (tg := 135) rfl rfl ?_
              refine jx_rt (v := none) rfl rfl rfl rfl rfl rfl ?_
              have z294 := tz_f (0)
              exact ⟨_, _, at1, 0, rfl, rfl, hW292, hF293, (ex_at1), rfl, by omega, by omega, by omega, trivial⟩
          · have _q : True := trivial
            refine jx_ld (pc' := 53) (l' := jSto1 L 1 (.int (i32 (r201)))) (st' := []) rfl rfl ?_
            obtain ⟨L295, eL295⟩ : ∃ q, q = jSto1 L 1 (.int (i32 (r201))) := ⟨_, rfl⟩
            rw [← eL295]
            have gL295_0 : jGet L295 0 = some (.ref 66) := eL295 ▸ jg_ne (by decide) gL_0 rfl
            have gL295_1 : jGet L295 1 = some (.int (i32 (r201))) := eL295 ▸ jg_eq
            refine jx_ld (pc' := 54) (l' := L295) (st' := [.int (i32 (r201))]) rfl (jl_iloadn gL295_1) ?_
            refine jx_if_ne (pc' := 57) (tg := 88) rfl rfl rfl (by omega) (by omega) (fun h296 => ?_) (fun h296 => ?_)
            · have _q := h296
              refine jx_ld (pc' := 89) (l' := L295) (st' := [.int (i32 (r201))]) rfl (jl_iloadn gL295_1) ?_
              refine jx_st (pc' := 92) (as := [.int (i32 (r201))]) (st := []) rfl rfl ⟨rfl, Nat.le_of_ble_eq_true rfl⟩ rfl rfl rfl (c_isSmall (dd := d) (hd := by omega) (v := r201)   (h_v := by omega)  ) (fun o V' hq => ?_)
              obtain ⟨r297, rfl, rfl, b298, q299⟩ := hq
              refine .inr ⟨_, rfl, ?_⟩
              rcases q299 with ⟨rfl, a300, a301⟩ | ⟨rfl, a302⟩
              · have _q : True := trivial
                refine jx_if_eq (pc' := 95) (tg := 102) rfl rfl rfl (by omega) (by omega) (fun h303 => ?_) (fun h303 => ?_)
                · have _q := h303
                  exact absurd h303 (by omega)
                · have _q := h303
                  refine jx_ld (pc' := 96) (l' := L295) (st' := [.ref 66]) rfl (jl_aloadn gL295_0) ?_
                  refine jx_vr (pc' := 99) (as := []) (st := []) rfl rfl rfl rfl ⟨rfl, rfl, Nat.le_of_ble_eq_true rfl⟩ rfl rfl (c_nameToken (dd := d) (hd := by omega) (hW := hW199)  (ln := ln) (e_ln := show (uG Gx 12 ((at1 - A 2 (ln).toNat))) 9 = ln from ((hFx.1 9 rfl).trans (e_ln))) (le := le) (e_le := show Ax 4 (ln).toNat = le from (congrFun (hFx.2 4 rfl) _).trans (e_le)) (at0 := at1) (e_at0 := show (uG Gx 12 ((at1 - A 2 (ln).toNat))) 10 = at1 from (ex_at1)) (tx := A 0 (at1).toNat) (e_tx := show Ax 0 (at1).toNat = A 0 (at1).toNat from (congrFun (hFx.2 0 rfl) _))    (p_0 := by omega) (p_1 := by omega)) (fun o V' hq => ?_)
                  obtain ⟨G304, A305, at2_306, tk2_307, rfl, rfl, hW308, hF309, e310, e311, p312, p313, p314, -⟩ := hq
                  have hF316 := Fr_tr hF200 hF309 (Fr_sub (by decide)) (Fr_sub (by decide))
                  have bat2_306 : (0 : Int) ≤ at2_306 ∧ at2_306 ≤ 3002 := e310 ▸ hW308.1 10
                  have ztk2_307 := tz_b tk2_307
                  have btk2_307 : (0 : Int) ≤ tk2_307 ∧ tk2_307 ≤ 5 := e311 ▸ hW308.1 11
                  refine .inl ⟨rfl, ?_⟩
                  refine jx_go (tg := 135) rfl rfl ?_
                  refine jx_rt (v := none) rfl rfl rfl rfl rfl rfl ?_
                  have z317 := tz_f (tk2_307)
                  exact ⟨_, _, at2_306, tk2_307, rfl, rfl, hW308, hF316, (e310), (e311), by omega, by omega, by omega, trivial⟩
              · have _q : True := trivial
                refine jx_if_eq (pc' := 95) (tg := 102) rfl rfl rfl (by omega) (by omega) (fun h318 => ?_) (fun h318 => ?_)
                · have _q := h318
                  refine jx_ld (pc' := 103) (l' := L295) (st' := [.int (i32 (r201))]) rfl (jl_iloadn gL295_1) ?_
                  refine jx_st (pc' := 106) (as := [.int (i32 (r201))]) (st := []) rfl rfl ⟨rfl, Nat.le_of_ble_eq_true rfl⟩ rfl rfl rfl (c_isBig (dd := d) (hd := by omega) (v := r201)   (h_v := by omega)  ) (fun o V' hq => ?_)
                  obtain ⟨r319, rfl, rfl, b320, q321⟩ := hq
                  refine .inr ⟨_, rfl, ?_⟩
                  rcases q321 with ⟨rfl, a322, a323⟩ | ⟨rfl, a324⟩
                  · have _q : True := trivial
                    refine jx_if_eq (pc' := 109) (tg := 116) rfl rfl rfl (by omega) (by omega) (fun h325 => ?_) (fun h325 => ?_)
                    · have _q := h325
                      exact absurd h325 (by omega)
                    · have _q := h325
                      refine jx_ld (pc' := 110) (l' := L295) (st' := [.ref 66]) rfl (jl_aloadn gL295_0) ?_
                      refine jx_vr (pc' := 113) (as := []) (st := []) rfl rfl rfl rfl ⟨rfl, rfl, Nat.le_of_ble_eq_true rfl⟩ rfl rfl (c_keyToken (dd := d) (hd := by omega) (hW := hW199)  (ln := ln) (e_ln := show (uG Gx 12 ((at1 - A 2 (ln).toNat))) 9 = ln from ((hFx.1 9 rfl).trans (e_ln))) (le := le) (e_le := show Ax 4 (ln).toNat = le from (congrFun (hFx.2 4 rfl) _).trans (e_le)) (at0 := at1) (e_at0 := show (uG Gx 12 ((at1 - A 2 (ln).toNat))) 10 = at1 from (ex_at1)) (tx := A 0 (at1).toNat) (e_tx := show Ax 0 (at1).toNat = A 0 (at1).toNat from (congrFun (hFx.2 0 rfl) _))    (p_0 := by omega) (p_1 := by omega)) (fun o V' hq => ?_)
                      obtain ⟨G326, A327, at2_328, tk2_329, rfl, rfl, hW330, hF331, e332, e333, p334, p335, p336, -⟩ := hq
                      have hF338 := Fr_tr hF200 hF331 (Fr_sub (by decide)) (Fr_sub (by decide))
                      have bat2_328 : (0 : Int) ≤ at2_328 ∧ at2_328 ≤ 3002 := e332 ▸ hW330.1 10
                      have ztk2_329 := tz_b tk2_329
                      have btk2_329 : (0 : Int) ≤ tk2_329 ∧ tk2_329 ≤ 5 := e333 ▸ hW330.1 11
                      refine .inl ⟨rfl, ?_⟩
                      refine jx_go (tg := 135) rfl rfl ?_
                      refine jx_rt (v := none) rfl rfl rfl rfl rfl rfl ?_
                      have z339 := tz_f (tk2_329)
                      exact ⟨_, _, at2_328, tk2_329, rfl, rfl, hW330, hF338, (e332), (e333), by omega, by omega, by omega, trivial⟩
                  · have _q : True := trivial
                    refine jx_if_eq (pc' := 109) (tg := 116) rfl rfl rfl (by omega) (by omega) (fun h340 => ?_) (fun h340 => ?_)
                    · have _q := h340
                      refine jx_ld (pc' := 117) (l' := L295) (st' := [.int (i32 (r201))]) rfl (jl_iloadn gL295_1) ?_
                      refine jx_st (pc' := 120) (as := [.int (i32 (r201))]) (st := []) rfl rfl ⟨rfl, Nat.le_of_ble_eq_true rfl⟩ rfl rfl rfl (c_isDigit (dd := d) (hd := by omega) (v := r201)   (h_v := by omega)  ) (fun o V' hq => ?_)
                      obtain ⟨r341, rfl, rfl, b342, q343⟩ := hq
                      refine .inr ⟨_, rfl, ?_⟩
                      rcases q343 with ⟨rfl, a344, a345⟩ | ⟨rfl, a346⟩
                      · have _q : True := trivial
                        refine jx_if_eq (pc' := 123) (tg := 130) rfl rfl rfl (by omega) (by omega) (fun h347 => ?_) (fun h347 => ?_)
                        · have _q := h347
                          exact absurd h347 (by omega)
                        · have _q := h347
                          refine jx_ld (pc' := 124) (l' := L295) (st' := [.ref 66]) rfl (jl_aloadn gL295_0) ?_
                          refine jx_vr (pc' := 127) (as := []) (st := []) rfl rfl rfl rfl ⟨rfl, rfl, Nat.le_of_ble_eq_true rfl⟩ rfl rfl (c_numberToken (dd := d) (hd := by omega) (hW := hW199)  (ln := ln) (e_ln := show (uG Gx 12 ((at1 - A 2 (ln).toNat))) 9 = ln from ((hFx.1 9 rfl).trans (e_ln))) (le := le) (e_le := show Ax 4 (ln).toNat = le from (congrFun (hFx.2 4 rfl) _).trans (e_le)) (at0 := at1) (e_at0 := show (uG Gx 12 ((at1 - A 2 (ln).toNat))) 10 = at1 from (ex_at1)) (tx := A 0 (at1).toNat) (e_tx := show Ax 0 (at1).toNat = A 0 (at1).toNat from (congrFun (hFx.2 0 rfl) _))    (p_0 := by omega) (p_1 := by omega)) (fun o V' hq => ?_)
                          obtain ⟨G348, A349, at2_350, tk2_351, rfl, rfl, hW352, hF353, e354, e355, p356, p357, p358, -⟩ := hq
                          have hF360 := Fr_tr hF200 hF353 (Fr_sub (by decide)) (Fr_sub (by decide))
                          have bat2_350 : (0 : Int) ≤ at2_350 ∧ at2_350 ≤ 3002 := e354 ▸ hW352.1 10
                          have ztk2_351 := tz_b tk2_351
                          have btk2_351 : (0 : Int) ≤ tk2_351 ∧ tk2_351 ≤ 5 := e355 ▸ hW352.1 11
                          refine .inl ⟨rfl, ?_⟩
                          refine jx_go (tg := 135) rfl rfl ?_
                          refine jx_rt (v := none) rfl rfl rfl rfl rfl rfl ?_
                          have z361 := tz_f (tk2_351)
                          exact ⟨_, _, at2_350, tk2_351, rfl, rfl, hW352, hF360, (e354), (e355), by omega, by omega, by omega, trivial⟩
                      · have _q : True := trivial
                        refine jx_if_eq (pc' := 123) (tg := 130) rfl rfl rfl (by omega) (by omega) (fun h362 => ?_) (fun h362 => ?_)
                        · have _q := h362
                          refine jx_ld (pc' := 131) (l' := L295) (st' := [.ref 66]) rfl (jl_aloadn gL295_0) ?_
                          refine jx_ld (pc' := 132) (l' := L295) (st' := [.int (i32 (r201)), .ref 66]) rfl (jl_iloadn gL295_1) ?_
                          refine jx_vr (pc' := 135) (as := [.int (i32 (r201))]) (st := []) rfl rfl rfl rfl ⟨rfl, rfl, Nat.le_of_ble_eq_true rfl⟩ rfl rfl (c_signToken (dd := d) (hd := by omega) (hW := hW199) (c := r201) (ln := ln) (e_ln := show (uG Gx 12 ((at1 - A 2 (ln).toNat))) 9 = ln from ((hFx.1 9 rfl).trans (e_ln))) (le := le) (e_le := show Ax 4 (ln).toNat = le from (congrFun (hFx.2 4 rfl) _).trans (e_le)) (at0 := at1) (e_at0 := show (uG Gx 12 ((at1 - A 2 (ln).toNat))) 10 = at1 from (ex_at1))  (h_c := by omega)  (p_0 := by omega) (p_1 := by omega)) (fun o V' hq => ?_)
                          obtain ⟨G363, A364, at2_365, tk2_366, rfl, rfl, hW367, hF368, e369, e370, p371, p372, p373, -⟩ := hq
                          have hF375 := Fr_tr hF200 hF368 (Fr_sub (by decide)) (Fr_sub (by decide))
                          have bat2_365 : (0 : Int) ≤ at2_365 ∧ at2_365 ≤ 3002 := e369 ▸ hW367.1 10
                          have ztk2_366 := tz_b tk2_366
                          have btk2_366 : (0 : Int) ≤ tk2_366 ∧ tk2_366 ≤ 5 := e370 ▸ hW367.1 11
                          refine .inl ⟨rfl, ?_⟩
                          refine jx_rt (v := none) rfl rfl rfl rfl rfl rfl ?_
                          have z376 := tz_f (tk2_366)
                          exact ⟨_, _, at2_365, tk2_366, rfl, rfl, hW367, hF375, (e369), (e370), by omega, by omega, by omega, trivial⟩
                        · have _q := h362
                          exact absurd h362 (by omega)
                    · have _q := h340
                      exact absurd h340 (by omega)
                · have _q := h318
                  exact absurd h318 (by omega)
            · have _q := h296
              refine jx_ld (pc' := 58) (l' := L295) (st' := [.ref 66]) rfl (jl_aloadn gL295_0) ?_
              refine jx_ar (pc' := 59) (st' := [.int (i32 (0)), .ref 66]) rfl rfl rfl rfl ?_
              refine jr_put (pc' := 62) (i := 11) (z := 0) rfl rfl (by decide) rfl rfl rfl rfl rfl rfl ?_
              have hW377 : Wk (uG (uG Gx 12 ((at1 - A 2 (ln).toNat))) 11 (0)) Ax := Wk_g hW199 (show (0 : Int) ≤ 0 by omega) (show 0 ≤ (5 : Int) by omega)
              have hF378 := Fr_g (z := 0) (i := 11) hF200 (by decide)
              refine jx_ld (pc' := 63) (l' := L295) (st' := [.ref 66]) rfl (jl_aloadn gL295_0) ?_
              refine jx_ld (pc' := 64) (l' := L295) (st' := [.ref 66, .ref 66]) rfl (jl_aloadn gL295_0) ?_
              refine jr_get (pc' := 67) (i := 7) (v := .ref 71) rfl rfl (by decide) rfl rfl ?_
              refine jx_ld (pc' := 68) (l' := L295) (st' := [.ref 66, .ref 71, .ref 66]) rfl (jl_aloadn gL295_0) ?_
              refine jr_get (pc' := 71) (i := 9) (v := .int (i32 (ln))) rfl rfl (by decide) (rFv_eq (by decide) (show (uG (uG Gx 12 ((at1 - A 2 (ln).toNat))) 11 (0)) 9 = ln from ((hFx.1 9 rfl).trans (e_ln)))) rfl ?_
              refine jr_ldv (pc' := 72) (i := 4) (m := 3001) (z := ln) (y := le) rfl (by decide) rfl (by decide) (by omega) (by omega) rfl (show Ax 4 (ln).toNat = le from (congrFun (hFx.2 4 rfl) _).trans (e_le)) ?_
              refine jx_ld (pc' := 73) (l' := L295) (st' := [.ref 66, .int (i32 (le)), .ref 66]) rfl (jl_aloadn gL295_0) ?_
              refine jr_get (pc' := 76) (i := 5) (v := .ref 69) rfl rfl (by decide) rfl rfl ?_
              refine jx_ld (pc' := 77) (l' := L295) (st' := [.ref 66, .ref 69, .int (i32 (le)), .ref 66]) rfl (jl_aloadn gL295_0) ?_
              refine jr_get (pc' := 80) (i := 9) (v := .int (i32 (ln))) rfl rfl (by decide) (rFv_eq (by decide) (show (uG (uG Gx 12 ((at1 - A 2 (ln).toNat))) 11 (0)) 9 = ln from ((hFx.1 9 rfl).trans (e_ln)))) rfl ?_
              refine jr_ldv (pc' := 81) (i := 2) (m := 3001) (z := ln) (y := A 2 (ln).toNat) rfl (by decide) rfl (by decide) (by omega) (by omega) rfl (show Ax 2 (ln).toNat = A 2 (ln).toNat from (congrFun (hFx.2 2 rfl) _)) ?_
              refine jx_sub (pc' := 82) rfl rfl ?_
              refine jr_put (pc' := 85) (i := 12) (z := (le - A 2 (ln).toNat)) rfl rfl (by decide) rfl rfl rfl rfl rfl rfl ?_
              have hW379 : Wk (uG (uG (uG Gx 12 ((at1 - A 2 (ln).toNat))) 11 (0)) 12 ((le - A 2 (ln).toNat))) Ax := Wk_g hW377 (show (-3000 : Int) ≤ (le - A 2 (ln).toNat) by omega) (show (le - A 2 (ln).toNat) ≤ (3002 : Int) by omega)
              have hF380 := Fr_g (z := (le - A 2 (ln).toNat)) (i := 12) hF378 (by decide)
              refine jx_go (tg := 135) rfl rfl ?_
              refine jx_rt (v := none) rfl rfl rfl rfl rfl rfl ?_
              have z381 := tz_f (0)
              exact ⟨_, _, at1, 0, rfl, rfl, hW379, hF380, (ex_at1), rfl, by omega, by omega, by omega, trivial⟩
        · have _q := h197
          refine jx_ld (pc' := 14) (l' := L) (st' := [.ref 66]) rfl (jl_aloadn gL_0) ?_
          refine jx_ar (pc' := 15) (st' := [.ref 66, .ref 66]) rfl rfl rfl rfl ?_
          refine jr_get (pc' := 18) (i := 10) (v := .int (i32 (at1))) rfl rfl (by decide) (rFv_eq (by decide) (show Gx 10 = at1 from (ex_at1))) rfl ?_
          refine jx_ar (pc' := 19) (st' := [.int (i32 (1)), .int (i32 (at1)), .ref 66]) rfl rfl rfl rfl ?_
          refine jx_add (pc' := 20) rfl rfl ?_
          refine jr_put (pc' := 23) (i := 10) (z := (at1 + 1)) rfl rfl (by decide) rfl rfl rfl rfl rfl rfl ?_
          have hW382 : Wk (uG Gx 10 ((at1 + 1))) Ax := Wk_g hWx (show (0 : Int) ≤ (at1 + 1) by omega) (show (at1 + 1) ≤ (3002 : Int) by omega)
          have hF383 := Fr_g (z := (at1 + 1)) (i := 10) hFx (by decide)
          refine jx_go (tg := 0) rfl rfl ?_
          exact ih _ (by omega) L (uG Gx 10 ((at1 + 1))) Ax ((at1 + 1)) rfl gL_0 hW382 hF383 (rfl) (by omega) (by omega)
  exact loop1 _ [(0, .ref 66)] G A (at0) rfl rfl hW hF0 ((e_at0)) (by omega) (by omega)
