set_option maxRecDepth 20000 in
set_option maxHeartbeats 4000000 in
theorem c_digit {X : jX} {dd : Nat} {V : jH} {c : Int} (hd : 2 ≤ dd) (h_c : (-2147483648 : Int) ≤ c ∧ c ≤ 2147483647) : wk X dd 257 [.int (i32 c)] V (fun o V' => ∃ (r : Int64), V' = V ∧ o = .inl (some (.long r)) ∧ True) := by
  obtain ⟨d, rfl⟩ : ∃ d, dd = d + 1 := ⟨dd - 1, by omega⟩
  refine wk_of (e := jm257) rfl (Nat.le_of_ble_eq_true rfl) ?_
  show wj X d jm257 (0, [(0, .int (i32 (c)))], [], V) _
  refine jx_ld (pc' := 1) (l' := [(0, .int (i32 (c)))]) (st' := [.int (i32 (c))]) rfl (jl_iloadn rfl) ?_
  refine jx_st (pc' := 4) (as := [.int (i32 (c))]) (st := []) rfl rfl ⟨rfl, Nat.le_of_ble_eq_true rfl⟩ rfl rfl rfl (c_isSmall (dd := d) (hd := by omega) (v := c)   (h_v := by omega)  ) (fun o V' hq => ?_)
  obtain ⟨r1, rfl, rfl, b2, p3⟩ := hq
  refine .inr ⟨_, rfl, ?_⟩
  refine jx_if_eq (pc' := 7) (tg := 17) rfl rfl rfl (by omega) (by omega) (fun h4 => ?_) (fun h4 => ?_)
  · have _q := h4
    refine jx_ld (pc' := 18) (l' := [(0, .int (i32 (c)))]) (st' := [.int (i32 (c))]) rfl (jl_iloadn rfl) ?_
    refine jx_st (pc' := 21) (as := [.int (i32 (c))]) (st := []) rfl rfl ⟨rfl, Nat.le_of_ble_eq_true rfl⟩ rfl rfl rfl (c_isDigit (dd := d) (hd := by omega) (v := c)   (h_v := by omega)  ) (fun o V' hq => ?_)
    obtain ⟨r5, rfl, rfl, b6, p7⟩ := hq
    refine .inr ⟨_, rfl, ?_⟩
    refine jx_if_eq (pc' := 24) (tg := 36) rfl rfl rfl (by omega) (by omega) (fun h8 => ?_) (fun h8 => ?_)
    · have _q := h8
      refine jx_hp (pc' := 39) (st' := [.long (37)]) rfl rfl rfl rfl rfl rfl ?_
      refine jx_rt (v := some (.long (37))) rfl rfl rfl rfl rfl rfl ?_
      exact ⟨_, rfl, rfl, trivial⟩
    · have _q := h8
      refine jx_ld (pc' := 25) (l' := [(0, .int (i32 (c)))]) (st' := [.int (i32 (c))]) rfl (jl_iloadn rfl) ?_
      refine jx_ar (pc' := 27) (st' := [.int (i32 (48)), .int (i32 (c))]) rfl rfl rfl rfl ?_
      refine jx_sub (pc' := 28) rfl rfl ?_
      refine jx_ar (pc' := 29) (st' := .long ((i32 ((c - 48))).toInt64) :: []) rfl rfl rfl rfl ?_
      obtain ⟨y9, ey9⟩ : ∃ q : Int64, q = (i32 ((c - 48))).toInt64 := ⟨_, rfl⟩
      rw [← ey9]
      refine jx_hp (pc' := 32) (st' := [.long (27), .long (y9)]) rfl rfl rfl rfl rfl rfl ?_
      refine jx_ar (pc' := 33) (st' := .long ((y9 : Int64) + (27)) :: []) rfl rfl rfl rfl ?_
      obtain ⟨y10, ey10⟩ : ∃ q : Int64, q = (y9 : Int64) + (27) := ⟨_, rfl⟩
      rw [← ey10]
      refine jx_go (tg := 39) rfl rfl ?_
      refine jx_rt (v := some (.long (y10))) rfl rfl rfl rfl rfl rfl ?_
      exact ⟨_, rfl, rfl, trivial⟩
  · have _q := h4
    refine jx_ld (pc' := 8) (l' := [(0, .int (i32 (c)))]) (st' := [.int (i32 (c))]) rfl (jl_iloadn rfl) ?_
    refine jx_ar (pc' := 10) (st' := [.int (i32 (97)), .int (i32 (c))]) rfl rfl rfl rfl ?_
    refine jx_sub (pc' := 11) rfl rfl ?_
    refine jx_ar (pc' := 12) (st' := .long ((i32 ((c - 97))).toInt64) :: []) rfl rfl rfl rfl ?_
    obtain ⟨y11, ey11⟩ : ∃ q : Int64, q = (i32 ((c - 97))).toInt64 := ⟨_, rfl⟩
    rw [← ey11]
    refine jx_ar (pc' := 13) (st' := [.long (Int64.ofNat 1), .long (y11)]) rfl rfl rfl rfl ?_
    refine jx_ar (pc' := 14) (st' := .long ((y11 : Int64) + (Int64.ofNat 1)) :: []) rfl rfl rfl rfl ?_
    obtain ⟨y12, ey12⟩ : ∃ q : Int64, q = (y11 : Int64) + (Int64.ofNat 1) := ⟨_, rfl⟩
    rw [← ey12]
    refine jx_go (tg := 39) rfl rfl ?_
    refine jx_rt (v := some (.long (y12))) rfl rfl rfl rfl rfl rfl ?_
    exact ⟨_, rfl, rfl, trivial⟩
set_option maxRecDepth 20000 in
set_option maxHeartbeats 4000000 in
theorem c_nameOf {X : jX} {dd : Nat} {V : jH} {s : Nat} {s_s : List Char} (q_s : jTx s = some s_s) (l_s : s < 31) (n_s : s_s.length ≤ 1000) (hd : 3 ≤ dd) : wk X dd 261 [.ref s] V (fun o V' => ∃ (r : Int64), V' = V ∧ o = .inl (some (.long r)) ∧ True) := by
  obtain ⟨d, rfl⟩ : ∃ d, dd = d + 1 := ⟨dd - 1, by omega⟩
  refine wk_of (e := jm261) rfl (Nat.le_of_ble_eq_true rfl) ?_
  show wj X d jm261 (0, [(0, .ref s)], [], V) _
  refine jx_ar (pc' := 1) (st' := [.long (Int64.ofNat 0)]) rfl rfl rfl rfl ?_
  refine jx_ld (pc' := 2) (l' := jSto2 [(0, .ref s)] 1 (.long (Int64.ofNat 0))) (st' := []) rfl rfl ?_
  obtain ⟨L1, eL1⟩ : ∃ q, q = jSto2 [(0, .ref s)] 1 (.long (Int64.ofNat 0)) := ⟨_, rfl⟩
  rw [← eL1]
  have gL1_0 : jGet L1 0 = some (.ref s) := eL1 ▸ jg_ne2 (by decide) (by decide) (rfl : jGet [(0, .ref s)] 0 = some (.ref s)) (.inl rfl)
  have gL1_1 : jGet L1 1 = some (.long (Int64.ofNat 0)) := eL1 ▸ jg_eq2
  refine jx_ar (pc' := 3) (st' := [.int (i32 (0))]) rfl rfl rfl rfl ?_
  refine jx_ld (pc' := 4) (l' := jSto1 L1 3 (.int (i32 (0)))) (st' := []) rfl rfl ?_
  obtain ⟨L2, eL2⟩ : ∃ q, q = jSto1 L1 3 (.int (i32 (0))) := ⟨_, rfl⟩
  rw [← eL2]
  have gL2_0 : jGet L2 0 = some (.ref s) := eL2 ▸ jg_ne (by decide) gL1_0 rfl
  have gL2_1 : jGet L2 1 = some (.long (Int64.ofNat 0)) := eL2 ▸ jg_nel (by decide) gL1_1 (by decide)
  have gL2_3 : jGet L2 3 = some (.int (i32 (0))) := eL2 ▸ jg_eq
  have loop3 : ∀ (m : Nat) (L : jL) (k : Int) (v : Int64), ((s_s.length : Int) - k).toNat = m → jGet L 0 = some (.ref s) → jGet L 3 = some (.int (i32 k)) → jGet L 1 = some (.long v) → ((-2147483648 : Int) ≤ k ∧ k ≤ 2147483647) → (0 ≤ k ∧ k ≤ (s_s.length : Int)) → wj X d jm261 (4, L, [], V) (fun o V' => ∃ (r : Int64), V' = V ∧ o = .inl (some (.long r)) ∧ True) := by
    intro m
    induction m using Nat.strongRecOn with
    | ind m ih =>
      intro L k v hm gL_0 gL_3 gL_1 rx_k iv_0
      refine jx_ld (pc' := 5) (l' := L) (st' := [.int (i32 (k))]) rfl (jl_iloadn gL_3) ?_
      refine jx_ld (pc' := 6) (l' := L) (st' := [.ref s, .int (i32 (k))]) rfl (jl_aloadn gL_0) ?_
      refine jx_sl (pc' := 9) (n := (s_s.length : Int)) rfl rfl q_s ⟨Nat.le_of_ble_eq_true rfl, l_s⟩ rfl rfl ?_
      refine jx_icmp_ge (pc' := 12) (tg := 33) rfl rfl rfl (by omega) (by omega) (by omega) (by omega) (fun h4 => ?_) (fun h4 => ?_)
      · have _q := h4
        refine jx_ld (pc' := 34) (l' := L) (st' := [.long (v)]) rfl (jl_lloadn gL_1) ?_
        refine jx_rt (v := some (.long (v))) rfl rfl rfl rfl rfl rfl ?_
        exact ⟨_, rfl, rfl, trivial⟩
      · have _q := h4
        refine jx_hp (pc' := 15) (st' := [.long (38)]) rfl rfl rfl rfl rfl rfl ?_
        refine jx_ld (pc' := 16) (l' := L) (st' := [.long (v), .long (38)]) rfl (jl_lloadn gL_1) ?_
        refine jx_ar (pc' := 17) (st' := .long ((38 : Int64) * (v)) :: []) rfl rfl rfl rfl ?_
        obtain ⟨y5, ey5⟩ : ∃ q : Int64, q = (38 : Int64) * (v) := ⟨_, rfl⟩
        rw [← ey5]
        refine jx_ld (pc' := 18) (l' := L) (st' := [.ref s, .long (y5)]) rfl (jl_aloadn gL_0) ?_
        refine jx_ld (pc' := 19) (l' := L) (st' := [.int (i32 (k)), .ref s, .long (y5)]) rfl (jl_iloadn gL_3) ?_
        refine jx_sc (pc' := 22) (n := (s_s.length : Int)) rfl rfl q_s ⟨Nat.le_of_ble_eq_true rfl, l_s⟩ rfl (by omega) (by omega) (by omega) rfl (fun r6 hr6 => ?_)
        refine jx_st (pc' := 25) (as := [.int (i32 (r6))]) (st := [.long (y5)]) rfl rfl ⟨rfl, Nat.le_of_ble_eq_true rfl⟩ rfl rfl rfl (c_digit (dd := d) (hd := by omega) (c := r6)   (h_c := by omega)  ) (fun o V' hq => ?_)
        obtain ⟨r7, rfl, rfl, p8⟩ := hq
        refine .inr ⟨_, rfl, ?_⟩
        refine jx_ar (pc' := 26) (st' := .long ((y5 : Int64) + (r7)) :: []) rfl rfl rfl rfl ?_
        obtain ⟨y9, ey9⟩ : ∃ q : Int64, q = (y5 : Int64) + (r7) := ⟨_, rfl⟩
        rw [← ey9]
        refine jx_ld (pc' := 27) (l' := jSto2 L 1 (.long (y9))) (st' := []) rfl rfl ?_
        obtain ⟨L10, eL10⟩ : ∃ q, q = jSto2 L 1 (.long (y9)) := ⟨_, rfl⟩
        rw [← eL10]
        have gL10_0 : jGet L10 0 = some (.ref s) := eL10 ▸ jg_ne2 (by decide) (by decide) gL_0 (.inl rfl)
        have gL10_3 : jGet L10 3 = some (.int (i32 (k))) := eL10 ▸ jg_ne2 (by decide) (by decide) gL_3 (.inl rfl)
        have gL10_1 : jGet L10 1 = some (.long (y9)) := eL10 ▸ jg_eq2
        refine jx_inc (pc' := 30) (l' := jSto1 L10 3 (.int (i32 ((k + (1)))))) (x := k) rfl gL10_3 (by decide) rfl rfl ?_
        obtain ⟨L11, eL11⟩ : ∃ q, q = jSto1 L10 3 (.int (i32 ((k + (1))))) := ⟨_, rfl⟩
        rw [← eL11]
        have gL11_0 : jGet L11 0 = some (.ref s) := eL11 ▸ jg_ne (by decide) gL10_0 rfl
        have gL11_1 : jGet L11 1 = some (.long (y9)) := eL11 ▸ jg_nel (by decide) gL10_1 (by decide)
        have gL11_3 : jGet L11 3 = some (.int (i32 ((k + (1))))) := eL11 ▸ jg_eq
        refine jx_go (tg := 4) rfl rfl ?_
        exact ih _ (by omega) L11 ((k + (1))) (y9) rfl gL11_0 gL11_3 gL11_1 (by omega) (by omega)
  exact loop3 _ L2 (0) (Int64.ofNat 0) rfl gL2_0 gL2_3 gL2_1 (by omega) (by omega)
set_option maxRecDepth 20000 in
set_option maxHeartbeats 4000000 in
theorem c_keyOf {X : jX} {dd : Nat} {c0 c1 : jC} {G : Nat → Int} {A : Nat → Nat → Int} {T : jH} {v : Int64} (hd : 1 ≤ dd) (hW : Wk G A) : wk X dd 263 [.ref 66, .long v] (rV c0 c1 G A T) (fun o V' => ∃ (r : Int), V' = rV c0 c1 G A T ∧ o = .inl (some (.int (i32 r))) ∧ ((-2147483648 : Int) ≤ r ∧ r ≤ 2147483647) ∧ True) := by
  obtain ⟨d, rfl⟩ : ∃ d, dd = d + 1 := ⟨dd - 1, by omega⟩
  refine wk_of (e := jm263) rfl (Nat.le_of_ble_eq_true rfl) ?_
  show wj X d jm263 (0, [(0, .ref 66), (1, .long (v))], [], rV c0 c1 G A T) _
  refine jx_hp (pc' := 3) (st' := [.ref 29]) rfl rfl rfl rfl rfl rfl ?_
  refine jx_ld (pc' := 4) (l' := jSto1 [(0, .ref 66), (1, .long (v))] 3 (.ref 29)) (st' := []) rfl rfl ?_
  obtain ⟨L1, eL1⟩ : ∃ q, q = jSto1 [(0, .ref 66), (1, .long (v))] 3 (.ref 29) := ⟨_, rfl⟩
  rw [← eL1]
  have gL1_0 : jGet L1 0 = some (.ref 66) := eL1 ▸ jg_ne (by decide) (rfl : jGet [(0, .ref 66), (1, .long (v))] 0 = some (.ref 66)) rfl
  have gL1_1 : jGet L1 1 = some (.long (v)) := eL1 ▸ jg_nel (by decide) (rfl : jGet [(0, .ref 66), (1, .long (v))] 1 = some (.long (v))) (by decide)
  have gL1_3 : jGet L1 3 = some (.ref 29) := eL1 ▸ jg_eq
  refine jx_ar (pc' := 5) (st' := [.int (i32 (1))]) rfl rfl rfl rfl ?_
  refine jx_ld (pc' := 7) (l' := jSto1 L1 4 (.int (i32 (1)))) (st' := []) rfl rfl ?_
  obtain ⟨L2, eL2⟩ : ∃ q, q = jSto1 L1 4 (.int (i32 (1))) := ⟨_, rfl⟩
  rw [← eL2]
  have gL2_0 : jGet L2 0 = some (.ref 66) := eL2 ▸ jg_ne (by decide) gL1_0 rfl
  have gL2_1 : jGet L2 1 = some (.long (v)) := eL2 ▸ jg_nel (by decide) gL1_1 (by decide)
  have gL2_3 : jGet L2 3 = some (.ref 29) := eL2 ▸ jg_ne (by decide) gL1_3 rfl
  have gL2_4 : jGet L2 4 = some (.int (i32 (1))) := eL2 ▸ jg_eq
  refine jx_ar (pc' := 8) (st' := [.long (Int64.ofNat 0)]) rfl rfl rfl rfl ?_
  refine jx_ld (pc' := 10) (l' := jSto2 L2 5 (.long (Int64.ofNat 0))) (st' := []) rfl rfl ?_
  obtain ⟨L3, eL3⟩ : ∃ q, q = jSto2 L2 5 (.long (Int64.ofNat 0)) := ⟨_, rfl⟩
  rw [← eL3]
  have gL3_0 : jGet L3 0 = some (.ref 66) := eL3 ▸ jg_ne2 (by decide) (by decide) gL2_0 (.inl rfl)
  have gL3_1 : jGet L3 1 = some (.long (v)) := eL3 ▸ jg_ne2 (by decide) (by decide) gL2_1 (.inr (by decide))
  have gL3_3 : jGet L3 3 = some (.ref 29) := eL3 ▸ jg_ne2 (by decide) (by decide) gL2_3 (.inl rfl)
  have gL3_4 : jGet L3 4 = some (.int (i32 (1))) := eL3 ▸ jg_ne2 (by decide) (by decide) gL2_4 (.inl rfl)
  have gL3_5 : jGet L3 5 = some (.long (Int64.ofNat 0)) := eL3 ▸ jg_eq2
  refine jx_ar (pc' := 11) (st' := [.int (i32 (0))]) rfl rfl rfl rfl ?_
  refine jx_ld (pc' := 13) (l' := jSto1 L3 7 (.int (i32 (0)))) (st' := []) rfl rfl ?_
  obtain ⟨L4, eL4⟩ : ∃ q, q = jSto1 L3 7 (.int (i32 (0))) := ⟨_, rfl⟩
  rw [← eL4]
  have gL4_0 : jGet L4 0 = some (.ref 66) := eL4 ▸ jg_ne (by decide) gL3_0 rfl
  have gL4_1 : jGet L4 1 = some (.long (v)) := eL4 ▸ jg_nel (by decide) gL3_1 (by decide)
  have gL4_3 : jGet L4 3 = some (.ref 29) := eL4 ▸ jg_ne (by decide) gL3_3 rfl
  have gL4_4 : jGet L4 4 = some (.int (i32 (1))) := eL4 ▸ jg_ne (by decide) gL3_4 rfl
  have gL4_5 : jGet L4 5 = some (.long (Int64.ofNat 0)) := eL4 ▸ jg_nel (by decide) gL3_5 (by decide)
  have gL4_7 : jGet L4 7 = some (.int (i32 (0))) := eL4 ▸ jg_eq
  have loop5 : ∀ (m : Nat) (L : jL) (nu k : Int) (wv : Int64), (300 - k).toNat = m → jGet L 0 = some (.ref 66) → jGet L 1 = some (.long (v)) → jGet L 3 = some (.ref 29) → jGet L 4 = some (.int (i32 nu)) → jGet L 7 = some (.int (i32 k)) → jGet L 5 = some (.long wv) → ((-2147483648 : Int) ≤ nu ∧ nu ≤ 2147483647) → ((-2147483648 : Int) ≤ k ∧ k ≤ 2147483647) → (0 ≤ k ∧ k ≤ 300) → (0 ≤ nu ∧ nu ≤ k + 1) → wj X d jm263 (13, L, [], rV c0 c1 G A T) (fun o V' => ∃ (r : Int), V' = rV c0 c1 G A T ∧ o = .inl (some (.int (i32 r))) ∧ ((-2147483648 : Int) ≤ r ∧ r ≤ 2147483647) ∧ True) := by
    intro m
    induction m using Nat.strongRecOn with
    | ind m ih =>
      intro L nu k wv hm gL_0 gL_1 gL_3 gL_4 gL_7 gL_5 rx_nu rx_k iv_0 iv_1
      refine jx_ld (pc' := 15) (l' := L) (st' := [.int (i32 (k))]) rfl (jl_iload gL_7) ?_
      refine jx_ld (pc' := 16) (l' := L) (st' := [.ref 29, .int (i32 (k))]) rfl (jl_aloadn gL_3) ?_
      refine jx_sl (pc' := 19) (n := 109) rfl rfl rfl ⟨Nat.le_of_ble_eq_true rfl, (by decide)⟩ (by decide) rfl ?_
      refine jx_icmp_ge (pc' := 22) (tg := 80) rfl rfl rfl (by omega) (by omega) (by omega) (by omega) (fun h6 => ?_) (fun h6 => ?_)
      · have _q := h6
        refine jx_ar (pc' := 81) (st' := [.int (i32 (0))]) rfl rfl rfl rfl ?_
        refine jx_rt (v := some (.int (i32 (0)))) rfl rfl rfl rfl rfl rfl ?_
        exact ⟨_, rfl, rfl, by omega, trivial⟩
      · have _q := h6
        refine jx_ld (pc' := 23) (l' := L) (st' := [.ref 29]) rfl (jl_aloadn gL_3) ?_
        refine jx_ld (pc' := 25) (l' := L) (st' := [.int (i32 (k)), .ref 29]) rfl (jl_iload gL_7) ?_
        refine jx_sc (pc' := 28) (n := 109) rfl rfl rfl ⟨Nat.le_of_ble_eq_true rfl, (by decide)⟩ (by decide) (by omega) (by omega) (by omega) rfl (fun r7 hr7 => ?_)
        refine jx_ar (pc' := 30) (st' := [.int (i32 (44)), .int (i32 (r7))]) rfl rfl rfl rfl ?_
        refine jx_icmp_eq (pc' := 33) (tg := 58) rfl rfl rfl (by omega) (by omega) (by omega) (by omega) (fun h8 => ?_) (fun h8 => ?_)
        · have _q := h8
          refine jx_ld (pc' := 60) (l' := L) (st' := [.long (wv)]) rfl (jl_lload gL_5) ?_
          refine jx_ld (pc' := 61) (l' := L) (st' := [.long (v), .long (wv)]) rfl (jl_lloadn gL_1) ?_
          refine jx_lcmp (pc' := 62) rfl rfl (fun r9 hr9 => ?_)
          refine jx_if_ne (pc' := 65) (tg := 68) rfl rfl rfl (by omega) (by omega) (fun h10 => ?_) (fun h10 => ?_)
          · have _q := h10
            refine jx_inc (pc' := 71) (l' := jSto1 L 4 (.int (i32 ((nu + (1)))))) (x := nu) rfl gL_4 (by decide) rfl rfl ?_
            obtain ⟨L11, eL11⟩ : ∃ q, q = jSto1 L 4 (.int (i32 ((nu + (1))))) := ⟨_, rfl⟩
            rw [← eL11]
            have gL11_0 : jGet L11 0 = some (.ref 66) := eL11 ▸ jg_ne (by decide) gL_0 rfl
            have gL11_1 : jGet L11 1 = some (.long (v)) := eL11 ▸ jg_nel (by decide) gL_1 (by decide)
            have gL11_3 : jGet L11 3 = some (.ref 29) := eL11 ▸ jg_ne (by decide) gL_3 rfl
            have gL11_7 : jGet L11 7 = some (.int (i32 (k))) := eL11 ▸ jg_ne (by decide) gL_7 rfl
            have gL11_5 : jGet L11 5 = some (.long (wv)) := eL11 ▸ jg_nel (by decide) gL_5 (by decide)
            have gL11_4 : jGet L11 4 = some (.int (i32 ((nu + (1))))) := eL11 ▸ jg_eq
            refine jx_ar (pc' := 72) (st' := [.long (Int64.ofNat 0)]) rfl rfl rfl rfl ?_
            refine jx_ld (pc' := 74) (l' := jSto2 L11 5 (.long (Int64.ofNat 0))) (st' := []) rfl rfl ?_
            obtain ⟨L12, eL12⟩ : ∃ q, q = jSto2 L11 5 (.long (Int64.ofNat 0)) := ⟨_, rfl⟩
            rw [← eL12]
            have gL12_0 : jGet L12 0 = some (.ref 66) := eL12 ▸ jg_ne2 (by decide) (by decide) gL11_0 (.inl rfl)
            have gL12_1 : jGet L12 1 = some (.long (v)) := eL12 ▸ jg_ne2 (by decide) (by decide) gL11_1 (.inr (by decide))
            have gL12_3 : jGet L12 3 = some (.ref 29) := eL12 ▸ jg_ne2 (by decide) (by decide) gL11_3 (.inl rfl)
            have gL12_7 : jGet L12 7 = some (.int (i32 (k))) := eL12 ▸ jg_ne2 (by decide) (by decide) gL11_7 (.inl rfl)
            have gL12_4 : jGet L12 4 = some (.int (i32 ((nu + (1))))) := eL12 ▸ jg_ne2 (by decide) (by decide) gL11_4 (.inl rfl)
            have gL12_5 : jGet L12 5 = some (.long (Int64.ofNat 0)) := eL12 ▸ jg_eq2
            refine jx_inc (pc' := 77) (l' := jSto1 L12 7 (.int (i32 ((k + (1)))))) (x := k) rfl gL12_7 (by decide) rfl rfl ?_
            obtain ⟨L13, eL13⟩ : ∃ q, q = jSto1 L12 7 (.int (i32 ((k + (1))))) := ⟨_, rfl⟩
            rw [← eL13]
            have gL13_0 : jGet L13 0 = some (.ref 66) := eL13 ▸ jg_ne (by decide) gL12_0 rfl
            have gL13_1 : jGet L13 1 = some (.long (v)) := eL13 ▸ jg_nel (by decide) gL12_1 (by decide)
            have gL13_3 : jGet L13 3 = some (.ref 29) := eL13 ▸ jg_ne (by decide) gL12_3 rfl
            have gL13_4 : jGet L13 4 = some (.int (i32 ((nu + (1))))) := eL13 ▸ jg_ne (by decide) gL12_4 rfl
            have gL13_5 : jGet L13 5 = some (.long (Int64.ofNat 0)) := eL13 ▸ jg_nel (by decide) gL12_5 (by decide)
            have gL13_7 : jGet L13 7 = some (.int (i32 ((k + (1))))) := eL13 ▸ jg_eq
            refine jx_go (tg := 13) rfl rfl ?_
            exact ih _ (by omega) L13 ((nu + (1))) ((k + (1))) (Int64.ofNat 0) rfl gL13_0 gL13_1 gL13_3 gL13_4 gL13_7 gL13_5 (by omega) (by omega) (by omega) (by omega)
          · have _q := h10
            refine jx_ld (pc' := 67) (l' := L) (st' := [.int (i32 (nu))]) rfl (jl_iload gL_4) ?_
            refine jx_rt (v := some (.int (i32 (nu)))) rfl rfl rfl rfl rfl rfl ?_
            exact ⟨_, rfl, rfl, by omega, trivial⟩
        · have _q := h8
          refine jx_hp (pc' := 36) (st' := [.long (27)]) rfl rfl rfl rfl rfl rfl ?_
          refine jx_ld (pc' := 38) (l' := L) (st' := [.long (wv), .long (27)]) rfl (jl_lload gL_5) ?_
          refine jx_ar (pc' := 39) (st' := .long ((27 : Int64) * (wv)) :: []) rfl rfl rfl rfl ?_
          obtain ⟨y14, ey14⟩ : ∃ q : Int64, q = (27 : Int64) * (wv) := ⟨_, rfl⟩
          rw [← ey14]
          refine jx_ld (pc' := 40) (l' := L) (st' := [.ref 29, .long (y14)]) rfl (jl_aloadn gL_3) ?_
          refine jx_ld (pc' := 42) (l' := L) (st' := [.int (i32 (k)), .ref 29, .long (y14)]) rfl (jl_iload gL_7) ?_
          refine jx_sc (pc' := 45) (n := 109) rfl rfl rfl ⟨Nat.le_of_ble_eq_true rfl, (by decide)⟩ (by decide) (by omega) (by omega) (by omega) rfl (fun r15 hr15 => ?_)
          refine jx_ar (pc' := 46) (st' := .long ((i32 (r15)).toInt64) :: [.long (y14)]) rfl rfl rfl rfl ?_
          obtain ⟨y16, ey16⟩ : ∃ q : Int64, q = (i32 (r15)).toInt64 := ⟨_, rfl⟩
          rw [← ey16]
          refine jx_ar (pc' := 47) (st' := .long ((y14 : Int64) + (y16)) :: []) rfl rfl rfl rfl ?_
          obtain ⟨y17, ey17⟩ : ∃ q : Int64, q = (y14 : Int64) + (y16) := ⟨_, rfl⟩
          rw [← ey17]
          refine jx_hp (pc' := 50) (st' := [.long (65), .long (y17)]) rfl rfl rfl rfl rfl rfl ?_
          refine jx_ar (pc' := 51) (st' := .long ((y17 : Int64) - (65)) :: []) rfl rfl rfl rfl ?_
          obtain ⟨y18, ey18⟩ : ∃ q : Int64, q = (y17 : Int64) - (65) := ⟨_, rfl⟩
          rw [← ey18]
          refine jx_ar (pc' := 52) (st' := [.long (Int64.ofNat 1), .long (y18)]) rfl rfl rfl rfl ?_
          refine jx_ar (pc' := 53) (st' := .long ((y18 : Int64) + (Int64.ofNat 1)) :: []) rfl rfl rfl rfl ?_
          obtain ⟨y19, ey19⟩ : ∃ q : Int64, q = (y18 : Int64) + (Int64.ofNat 1) := ⟨_, rfl⟩
          rw [← ey19]
          refine jx_ld (pc' := 55) (l' := jSto2 L 5 (.long (y19))) (st' := []) rfl rfl ?_
          obtain ⟨L20, eL20⟩ : ∃ q, q = jSto2 L 5 (.long (y19)) := ⟨_, rfl⟩
          rw [← eL20]
          have gL20_0 : jGet L20 0 = some (.ref 66) := eL20 ▸ jg_ne2 (by decide) (by decide) gL_0 (.inl rfl)
          have gL20_1 : jGet L20 1 = some (.long (v)) := eL20 ▸ jg_ne2 (by decide) (by decide) gL_1 (.inr (by decide))
          have gL20_3 : jGet L20 3 = some (.ref 29) := eL20 ▸ jg_ne2 (by decide) (by decide) gL_3 (.inl rfl)
          have gL20_4 : jGet L20 4 = some (.int (i32 (nu))) := eL20 ▸ jg_ne2 (by decide) (by decide) gL_4 (.inl rfl)
          have gL20_7 : jGet L20 7 = some (.int (i32 (k))) := eL20 ▸ jg_ne2 (by decide) (by decide) gL_7 (.inl rfl)
          have gL20_5 : jGet L20 5 = some (.long (y19)) := eL20 ▸ jg_eq2
          refine jx_go (tg := 74) rfl rfl ?_
          refine jx_inc (pc' := 77) (l' := jSto1 L20 7 (.int (i32 ((k + (1)))))) (x := k) rfl gL20_7 (by decide) rfl rfl ?_
          obtain ⟨L21, eL21⟩ : ∃ q, q = jSto1 L20 7 (.int (i32 ((k + (1))))) := ⟨_, rfl⟩
          rw [← eL21]
          have gL21_0 : jGet L21 0 = some (.ref 66) := eL21 ▸ jg_ne (by decide) gL20_0 rfl
          have gL21_1 : jGet L21 1 = some (.long (v)) := eL21 ▸ jg_nel (by decide) gL20_1 (by decide)
          have gL21_3 : jGet L21 3 = some (.ref 29) := eL21 ▸ jg_ne (by decide) gL20_3 rfl
          have gL21_4 : jGet L21 4 = some (.int (i32 (nu))) := eL21 ▸ jg_ne (by decide) gL20_4 rfl
          have gL21_5 : jGet L21 5 = some (.long (y19)) := eL21 ▸ jg_nel (by decide) gL20_5 (by decide)
          have gL21_7 : jGet L21 7 = some (.int (i32 ((k + (1))))) := eL21 ▸ jg_eq
          refine jx_go (tg := 13) rfl rfl ?_
          exact ih _ (by omega) L21 (nu) ((k + (1))) (y19) rfl gL21_0 gL21_1 gL21_3 gL21_4 gL21_7 gL21_5 (by omega) (by omega) (by omega) (by omega)
  exact loop5 _ L4 (1) (0) (Int64.ofNat 0) rfl gL4_0 gL4_1 gL4_3 gL4_4 gL4_7 gL4_5 (by omega) (by omega) (by omega) (by omega)
set_option maxRecDepth 20000 in
set_option maxHeartbeats 4000000 in
theorem c_pair {X : jX} {dd : Nat} {V : jH} {c e : Int} (hd : 1 ≤ dd) (h_c : (-2147483648 : Int) ≤ c ∧ c ≤ 2147483647) (h_e : (-2147483648 : Int) ≤ e ∧ e ≤ 2147483647) : wk X dd 265 [.int (i32 c), .int (i32 e)] V (fun o V' => ∃ (r : Int), V' = V ∧ o = .inl (some (.int (i32 r))) ∧ ((-2147483648 : Int) ≤ r ∧ r ≤ 2147483647) ∧ (0 ≤ r ∧ r ≤ 307) ∧ (r = 0 ∨ e ≠ 0)) := by
  obtain ⟨d, rfl⟩ : ∃ d, dd = d + 1 := ⟨dd - 1, by omega⟩
  refine wk_of (e := jm265) rfl (Nat.le_of_ble_eq_true rfl) ?_
  show wj X d jm265 (0, [(0, .int (i32 (c))), (1, .int (i32 (e)))], [], V) _
  refine jx_ld (pc' := 1) (l' := [(0, .int (i32 (c))), (1, .int (i32 (e)))]) (st' := [.int (i32 (c))]) rfl (jl_iloadn rfl) ?_
  rcases (by omega : c = 47 ∨ c = 58 ∨ c = 60 ∨ c = 62 ∨ c = 92 ∨ (c ≠ 47 ∧ c ≠ 58 ∧ c ≠ 60 ∧ c ≠ 62 ∧ c ≠ 92)) with h1 | h1 | h1 | h1 | h1 | h1
  · refine jx_swe (z := 47) (tg := 130) h1 rfl rfl rfl rfl ?_
    refine jx_ld (pc' := 131) (l' := [(0, .int (i32 (c))), (1, .int (i32 (e)))]) (st' := [.int (i32 (e))]) rfl (jl_iloadn rfl) ?_
    refine jx_ar (pc' := 133) (st' := [.int (i32 (92)), .int (i32 (e))]) rfl rfl rfl rfl ?_
    refine jx_icmp_ne (pc' := 136) (tg := 142) rfl rfl rfl (by omega) (by omega) (by omega) (by omega) (fun h2 => ?_) (fun h2 => ?_)
    · have _q := h2
      refine jx_ar (pc' := 143) (st' := [.int (i32 (0))]) rfl rfl rfl rfl ?_
      refine jx_rt (v := some (.int (i32 (0)))) rfl rfl rfl rfl rfl rfl ?_
      exact ⟨_, rfl, rfl, by omega, by omega⟩
    · have _q := h2
      refine jx_ar (pc' := 139) (st' := [.int (i32 (306))]) rfl rfl rfl rfl ?_
      refine jx_go (tg := 143) rfl rfl ?_
      refine jx_rt (v := some (.int (i32 (306)))) rfl rfl rfl rfl rfl rfl ?_
      exact ⟨_, rfl, rfl, by omega, by omega⟩
  · refine jx_swe (z := 58) (tg := 52) h1 rfl rfl rfl rfl ?_
    refine jx_ld (pc' := 53) (l' := [(0, .int (i32 (c))), (1, .int (i32 (e)))]) (st' := [.int (i32 (e))]) rfl (jl_iloadn rfl) ?_
    refine jx_ar (pc' := 55) (st' := [.int (i32 (61)), .int (i32 (e))]) rfl rfl rfl rfl ?_
    refine jx_icmp_ne (pc' := 58) (tg := 64) rfl rfl rfl (by omega) (by omega) (by omega) (by omega) (fun h3 => ?_) (fun h3 => ?_)
    · have _q := h3
      refine jx_ar (pc' := 65) (st' := [.int (i32 (0))]) rfl rfl rfl rfl ?_
      refine jx_rt (v := some (.int (i32 (0)))) rfl rfl rfl rfl rfl rfl ?_
      exact ⟨_, rfl, rfl, by omega, by omega⟩
    · have _q := h3
      refine jx_ar (pc' := 61) (st' := [.int (i32 (300))]) rfl rfl rfl rfl ?_
      refine jx_go (tg := 65) rfl rfl ?_
      refine jx_rt (v := some (.int (i32 (300)))) rfl rfl rfl rfl rfl rfl ?_
      exact ⟨_, rfl, rfl, by omega, by omega⟩
  · refine jx_swe (z := 60) (tg := 66) h1 rfl rfl rfl rfl ?_
    refine jx_ld (pc' := 67) (l' := [(0, .int (i32 (c))), (1, .int (i32 (e)))]) (st' := [.int (i32 (e))]) rfl (jl_iloadn rfl) ?_
    refine jx_ar (pc' := 69) (st' := [.int (i32 (62)), .int (i32 (e))]) rfl rfl rfl rfl ?_
    refine jx_icmp_ne (pc' := 72) (tg := 78) rfl rfl rfl (by omega) (by omega) (by omega) (by omega) (fun h4 => ?_) (fun h4 => ?_)
    · have _q := h4
      refine jx_ld (pc' := 79) (l' := [(0, .int (i32 (c))), (1, .int (i32 (e)))]) (st' := [.int (i32 (e))]) rfl (jl_iloadn rfl) ?_
      refine jx_ar (pc' := 81) (st' := [.int (i32 (61)), .int (i32 (e))]) rfl rfl rfl rfl ?_
      refine jx_icmp_ne (pc' := 84) (tg := 90) rfl rfl rfl (by omega) (by omega) (by omega) (by omega) (fun h5 => ?_) (fun h5 => ?_)
      · have _q := h5
        refine jx_ld (pc' := 91) (l' := [(0, .int (i32 (c))), (1, .int (i32 (e)))]) (st' := [.int (i32 (e))]) rfl (jl_iloadn rfl) ?_
        refine jx_ar (pc' := 93) (st' := [.int (i32 (60)), .int (i32 (e))]) rfl rfl rfl rfl ?_
        refine jx_icmp_ne (pc' := 96) (tg := 102) rfl rfl rfl (by omega) (by omega) (by omega) (by omega) (fun h6 => ?_) (fun h6 => ?_)
        · have _q := h6
          refine jx_ar (pc' := 103) (st' := [.int (i32 (0))]) rfl rfl rfl rfl ?_
          refine jx_rt (v := some (.int (i32 (0)))) rfl rfl rfl rfl rfl rfl ?_
          exact ⟨_, rfl, rfl, by omega, by omega⟩
        · have _q := h6
          refine jx_ar (pc' := 99) (st' := [.int (i32 (304))]) rfl rfl rfl rfl ?_
          refine jx_go (tg := 103) rfl rfl ?_
          refine jx_rt (v := some (.int (i32 (304)))) rfl rfl rfl rfl rfl rfl ?_
          exact ⟨_, rfl, rfl, by omega, by omega⟩
      · have _q := h5
        refine jx_ar (pc' := 87) (st' := [.int (i32 (302))]) rfl rfl rfl rfl ?_
        refine jx_go (tg := 103) rfl rfl ?_
        refine jx_rt (v := some (.int (i32 (302)))) rfl rfl rfl rfl rfl rfl ?_
        exact ⟨_, rfl, rfl, by omega, by omega⟩
    · have _q := h4
      refine jx_ar (pc' := 75) (st' := [.int (i32 (301))]) rfl rfl rfl rfl ?_
      refine jx_go (tg := 103) rfl rfl ?_
      refine jx_rt (v := some (.int (i32 (301)))) rfl rfl rfl rfl rfl rfl ?_
      exact ⟨_, rfl, rfl, by omega, by omega⟩
  · refine jx_swe (z := 62) (tg := 104) h1 rfl rfl rfl rfl ?_
    refine jx_ld (pc' := 105) (l' := [(0, .int (i32 (c))), (1, .int (i32 (e)))]) (st' := [.int (i32 (e))]) rfl (jl_iloadn rfl) ?_
    refine jx_ar (pc' := 107) (st' := [.int (i32 (61)), .int (i32 (e))]) rfl rfl rfl rfl ?_
    refine jx_icmp_ne (pc' := 110) (tg := 116) rfl rfl rfl (by omega) (by omega) (by omega) (by omega) (fun h7 => ?_) (fun h7 => ?_)
    · have _q := h7
      refine jx_ld (pc' := 117) (l' := [(0, .int (i32 (c))), (1, .int (i32 (e)))]) (st' := [.int (i32 (e))]) rfl (jl_iloadn rfl) ?_
      refine jx_ar (pc' := 119) (st' := [.int (i32 (62)), .int (i32 (e))]) rfl rfl rfl rfl ?_
      refine jx_icmp_ne (pc' := 122) (tg := 128) rfl rfl rfl (by omega) (by omega) (by omega) (by omega) (fun h8 => ?_) (fun h8 => ?_)
      · have _q := h8
        refine jx_ar (pc' := 129) (st' := [.int (i32 (0))]) rfl rfl rfl rfl ?_
        refine jx_rt (v := some (.int (i32 (0)))) rfl rfl rfl rfl rfl rfl ?_
        exact ⟨_, rfl, rfl, by omega, by omega⟩
      · have _q := h8
        refine jx_ar (pc' := 125) (st' := [.int (i32 (305))]) rfl rfl rfl rfl ?_
        refine jx_go (tg := 129) rfl rfl ?_
        refine jx_rt (v := some (.int (i32 (305)))) rfl rfl rfl rfl rfl rfl ?_
        exact ⟨_, rfl, rfl, by omega, by omega⟩
    · have _q := h7
      refine jx_ar (pc' := 113) (st' := [.int (i32 (303))]) rfl rfl rfl rfl ?_
      refine jx_go (tg := 129) rfl rfl ?_
      refine jx_rt (v := some (.int (i32 (303)))) rfl rfl rfl rfl rfl rfl ?_
      exact ⟨_, rfl, rfl, by omega, by omega⟩
  · refine jx_swe (z := 92) (tg := 144) h1 rfl rfl rfl rfl ?_
    refine jx_ld (pc' := 145) (l' := [(0, .int (i32 (c))), (1, .int (i32 (e)))]) (st' := [.int (i32 (e))]) rfl (jl_iloadn rfl) ?_
    refine jx_ar (pc' := 147) (st' := [.int (i32 (47)), .int (i32 (e))]) rfl rfl rfl rfl ?_
    refine jx_icmp_ne (pc' := 150) (tg := 156) rfl rfl rfl (by omega) (by omega) (by omega) (by omega) (fun h9 => ?_) (fun h9 => ?_)
    · have _q := h9
      refine jx_ar (pc' := 157) (st' := [.int (i32 (0))]) rfl rfl rfl rfl ?_
      refine jx_rt (v := some (.int (i32 (0)))) rfl rfl rfl rfl rfl rfl ?_
      exact ⟨_, rfl, rfl, by omega, by omega⟩
    · have _q := h9
      refine jx_ar (pc' := 153) (st' := [.int (i32 (307))]) rfl rfl rfl rfl ?_
      refine jx_go (tg := 157) rfl rfl ?_
      refine jx_rt (v := some (.int (i32 (307)))) rfl rfl rfl rfl rfl rfl ?_
      exact ⟨_, rfl, rfl, by omega, by omega⟩
  · refine jx_swd (tg := 158) (by omega) (by omega) rfl (by decide) (by simp; omega) rfl ?_
    refine jx_ar (pc' := 159) (st' := [.int (i32 (0))]) rfl rfl rfl rfl ?_
    refine jx_rt (v := some (.int (i32 (0)))) rfl rfl rfl rfl rfl rfl ?_
    exact ⟨_, rfl, rfl, by omega, by omega⟩
set_option maxRecDepth 20000 in
set_option maxHeartbeats 4000000 in
theorem c_nameToken {X : jX} {dd : Nat} {c0 c1 : jC} {G : Nat → Int} {A : Nat → Nat → Int} {T : jH} {ln le at0 tx : Int} (hd : 3 ≤ dd) (hW : Wk G A) (e_ln : G 9 = ln) (e_le : A 4 (ln).toNat = le) (e_at0 : G 10 = at0) (e_tx : A 0 (at0).toNat = tx) (p_0 : at0 < le) (p_1 : 97 ≤ tx ∧ tx ≤ 122) : wk X dd 260 [.ref 66] (rV c0 c1 G A T) (fun o V' => ∃ (G' : Nat → Int) (A' : Nat → Nat → Int) (at2 : Int) (tk2 : Int), V' = rV c0 c1 G' A' T ∧ o = .inl none ∧ Wk G' A' ∧ Fr [10, 11, 14] [] G A G' A' ∧ G' 10 = at2 ∧ G' 11 = tk2 ∧ (at0 < at2 ∧ at2 ≤ le) ∧ (tk2 = 1 ∨ tk2 = 5)) := by
  obtain ⟨d, rfl⟩ : ∃ d, dd = d + 1 := ⟨dd - 1, by omega⟩
  refine wk_of (e := jm260) rfl (Nat.le_of_ble_eq_true rfl) ?_
  show wj X d jm260 (0, [(0, .ref 66)], [], rV c0 c1 G A T) _
  have hF0 : Fr [10, 11, 14] [] G A G A := Fr_rf
  have b_ln : (0 : Int) ≤ ln ∧ ln ≤ 3000 := e_ln ▸ hW.1 9
  have b_le : (0 : Int) ≤ le ∧ le ≤ 3000 := e_le ▸ hW.2 4 _
  have b_at0 : (0 : Int) ≤ at0 ∧ at0 ≤ 3002 := e_at0 ▸ hW.1 10
  have b_tx : (0 : Int) ≤ tx ∧ tx ≤ 126 := e_tx ▸ hW.2 0 _
  refine jx_ar (pc' := 1) (st' := [.int (i32 (0))]) rfl rfl rfl rfl ?_
  refine jx_ld (pc' := 2) (l' := jSto1 [(0, .ref 66)] 1 (.int (i32 (0)))) (st' := []) rfl rfl ?_
  obtain ⟨L1, eL1⟩ : ∃ q, q = jSto1 [(0, .ref 66)] 1 (.int (i32 (0))) := ⟨_, rfl⟩
  rw [← eL1]
  have gL1_0 : jGet L1 0 = some (.ref 66) := eL1 ▸ jg_ne (by decide) (rfl : jGet [(0, .ref 66)] 0 = some (.ref 66)) rfl
  have gL1_1 : jGet L1 1 = some (.int (i32 (0))) := eL1 ▸ jg_eq
  refine jx_ld (pc' := 3) (l' := L1) (st' := [.ref 66]) rfl (jl_aloadn gL1_0) ?_
  refine jx_ar (pc' := 4) (st' := [.long (Int64.ofNat 0), .ref 66]) rfl rfl rfl rfl ?_
  have rl2 := i64_rg (Int64.ofNat 0)
  refine jr_put (pc' := 7) (i := 14) (z := (Int64.ofNat 0 : Int64).toInt) rfl rfl (by decide) rfl rfl rfl rfl (congrArg Value.long (i64_of (Int64.ofNat 0))) rfl ?_
  have hW3 : Wk (uG G 14 ((Int64.ofNat 0 : Int64).toInt)) A := Wk_g hW (show (-9223372036854775808 : Int) ≤ (Int64.ofNat 0 : Int64).toInt by omega) (show (Int64.ofNat 0 : Int64).toInt ≤ (9223372036854775807 : Int) by omega)
  have hF4 := Fr_g (z := (Int64.ofNat 0 : Int64).toInt) (i := 14) hF0 (by decide)
  have loop5 : ∀ (m : Nat) (L : jL) (Gx : Nat → Int) (Ax : Nat → Nat → Int) (n at1 cur : Int), (le - at1).toNat = m → jGet L 0 = some (.ref 66) → jGet L 1 = some (.int (i32 n)) → Wk Gx Ax → Fr [10, 11, 14] [] G A Gx Ax → Gx 10 = at1 → Ax 0 (at1).toNat = cur → ((-2147483648 : Int) ≤ n ∧ n ≤ 2147483647) → (at0 ≤ at1 ∧ at1 ≤ le) → (at1 = at0 → cur = tx) → (n = at1 - at0) → wj X d jm260 (7, L, [], rV c0 c1 Gx Ax T) (fun o V' => ∃ (G' : Nat → Int) (A' : Nat → Nat → Int) (at2 : Int) (tk2 : Int), V' = rV c0 c1 G' A' T ∧ o = .inl none ∧ Wk G' A' ∧ Fr [10, 11, 14] [] G A G' A' ∧ G' 10 = at2 ∧ G' 11 = tk2 ∧ (at0 < at2 ∧ at2 ≤ le) ∧ (tk2 = 1 ∨ tk2 = 5)) := by
    intro m
    induction m using Nat.strongRecOn with
    | ind m ih =>
      intro L Gx Ax n at1 cur hm gL_0 gL_1 hWx hFx ex_at1 ex_cur rx_n iv_0 iv_1 iv_2
      have b_at1 : (0 : Int) ≤ at1 ∧ at1 ≤ 3002 := ex_at1 ▸ hWx.1 10
      refine jx_ld (pc' := 8) (l' := L) (st' := [.ref 66]) rfl (jl_aloadn gL_0) ?_
      refine jx_ld (pc' := 9) (l' := L) (st' := [.ref 66, .ref 66]) rfl (jl_aloadn gL_0) ?_
      refine jr_get (pc' := 12) (i := 10) (v := .int (i32 (at1))) rfl rfl (by decide) (rFv_eq (by decide) (show Gx 10 = at1 from (ex_at1))) rfl ?_
      refine jx_vr (pc' := 15) (as := [.int (i32 (at1))]) (st := []) rfl rfl rfl rfl ⟨rfl, rfl, Nat.le_of_ble_eq_true rfl⟩ rfl rfl (c_sign (dd := d) (hd := by omega) (hW := hWx) (k := at1) (ln := ln) (e_ln := show Gx 9 = ln from ((hFx.1 9 rfl).trans (e_ln))) (le := le) (e_le := show Ax 4 (ln).toNat = le from (congrFun (hFx.2 4 rfl) _).trans (e_le)) (tx := cur) (e_tx := show Ax 0 (at1).toNat = cur from (ex_cur))  (h_k := by omega)  (p_0 := by omega)) (fun o V' hq => ?_)
      obtain ⟨r6, rfl, rfl, b7, p8⟩ := hq
      refine .inr ⟨_, rfl, ?_⟩
      refine jx_st (pc' := 18) (as := [.int (i32 (r6))]) (st := []) rfl rfl ⟨rfl, Nat.le_of_ble_eq_true rfl⟩ rfl rfl rfl (c_isSmall (dd := d) (hd := by omega) (v := r6)   (h_v := by omega)  ) (fun o V' hq => ?_)
      obtain ⟨r9, rfl, rfl, b10, p11⟩ := hq
      refine .inr ⟨_, rfl, ?_⟩
      refine jx_if_ne (pc' := 21) (tg := 48) rfl rfl rfl (by omega) (by omega) (fun h12 => ?_) (fun h12 => ?_)
      · have _q := h12
        refine jx_ld (pc' := 49) (l' := L) (st' := [.ref 66]) rfl (jl_aloadn gL_0) ?_
        refine jx_ld (pc' := 50) (l' := L) (st' := [.int (i32 (n)), .ref 66]) rfl (jl_iloadn gL_1) ?_
        refine jx_ar (pc' := 52) (st' := [.int (i32 (10)), .int (i32 (n)), .ref 66]) rfl rfl rfl rfl ?_
        refine jx_icmp_ge (pc' := 55) (tg := 78) rfl rfl rfl (by omega) (by omega) (by omega) (by omega) (fun h13 => ?_) (fun h13 => ?_)
        · have _q := h13
          refine jx_ld (pc' := 79) (l' := L) (st' := [.ref 66, .ref 66]) rfl (jl_aloadn gL_0) ?_
          refine jr_get (pc' := 82) (i := 14) (v := .long (i64 (Gx 14))) rfl rfl (by decide) rfl rfl ?_
          obtain ⟨y14, ey14⟩ : ∃ q : Int64, q = i64 (Gx 14) := ⟨_, rfl⟩
          rw [← ey14]
          have rl15 := i64_rg (y14)
          refine jr_put (pc' := 85) (i := 14) (z := (y14 : Int64).toInt) rfl rfl (by decide) rfl rfl rfl rfl (congrArg Value.long (i64_of (y14))) rfl ?_
          have hW16 : Wk (uG Gx 14 ((y14 : Int64).toInt)) Ax := Wk_g hWx (show (-9223372036854775808 : Int) ≤ (y14 : Int64).toInt by omega) (show (y14 : Int64).toInt ≤ (9223372036854775807 : Int) by omega)
          have hF17 := Fr_g (z := (y14 : Int64).toInt) (i := 14) hFx (by decide)
          refine jx_inc (pc' := 88) (l' := jSto1 L 1 (.int (i32 ((n + (1)))))) (x := n) rfl gL_1 (by decide) rfl rfl ?_
          obtain ⟨L18, eL18⟩ : ∃ q, q = jSto1 L 1 (.int (i32 ((n + (1))))) := ⟨_, rfl⟩
          rw [← eL18]
          have gL18_0 : jGet L18 0 = some (.ref 66) := eL18 ▸ jg_ne (by decide) gL_0 rfl
          have gL18_1 : jGet L18 1 = some (.int (i32 ((n + (1))))) := eL18 ▸ jg_eq
          refine jx_ld (pc' := 89) (l' := L18) (st' := [.ref 66]) rfl (jl_aloadn gL18_0) ?_
          refine jx_ar (pc' := 90) (st' := [.ref 66, .ref 66]) rfl rfl rfl rfl ?_
          refine jr_get (pc' := 93) (i := 10) (v := .int (i32 (at1))) rfl rfl (by decide) (rFv_eq (by decide) (show (uG Gx 14 ((y14 : Int64).toInt)) 10 = at1 from (ex_at1))) rfl ?_
          refine jx_ar (pc' := 94) (st' := [.int (i32 (1)), .int (i32 (at1)), .ref 66]) rfl rfl rfl rfl ?_
          refine jx_add (pc' := 95) rfl rfl ?_
          refine jr_put (pc' := 98) (i := 10) (z := (at1 + 1)) rfl rfl (by decide) rfl rfl rfl rfl rfl rfl ?_
          have hW19 : Wk (uG (uG Gx 14 ((y14 : Int64).toInt)) 10 ((at1 + 1))) Ax := Wk_g hW16 (show (0 : Int) ≤ (at1 + 1) by omega) (show (at1 + 1) ≤ (3002 : Int) by omega)
          have hF20 := Fr_g (z := (at1 + 1)) (i := 10) hF17 (by decide)
          refine jx_go (tg := 7) rfl rfl ?_
          exact ih _ (by omega) L18 (uG (uG Gx 14 ((y14 : Int64).toInt)) 10 ((at1 + 1))) Ax ((n + (1))) ((at1 + 1)) (A 0 ((at1 + 1)).toNat) rfl gL18_0 gL18_1 hW19 hF20 (rfl) ((congrFun (hFx.2 0 rfl) _)) (by omega) (by omega) (by omega) (by omega)
        · have _q := h13
          refine jx_hp (pc' := 58) (st' := [.long (38), .ref 66]) rfl rfl rfl rfl rfl rfl ?_
          refine jx_ld (pc' := 59) (l' := L) (st' := [.ref 66, .long (38), .ref 66]) rfl (jl_aloadn gL_0) ?_
          refine jr_get (pc' := 62) (i := 14) (v := .long (i64 (Gx 14))) rfl rfl (by decide) rfl rfl ?_
          obtain ⟨y21, ey21⟩ : ∃ q : Int64, q = i64 (Gx 14) := ⟨_, rfl⟩
          rw [← ey21]
          refine jx_ar (pc' := 63) (st' := .long ((38 : Int64) * (y21)) :: [.ref 66]) rfl rfl rfl rfl ?_
          obtain ⟨y22, ey22⟩ : ∃ q : Int64, q = (38 : Int64) * (y21) := ⟨_, rfl⟩
          rw [← ey22]
          refine jx_ld (pc' := 64) (l' := L) (st' := [.ref 66, .long (y22), .ref 66]) rfl (jl_aloadn gL_0) ?_
          refine jx_ld (pc' := 65) (l' := L) (st' := [.ref 66, .ref 66, .long (y22), .ref 66]) rfl (jl_aloadn gL_0) ?_
          refine jr_get (pc' := 68) (i := 10) (v := .int (i32 (at1))) rfl rfl (by decide) (rFv_eq (by decide) (show Gx 10 = at1 from (ex_at1))) rfl ?_
          refine jx_vr (pc' := 71) (as := [.int (i32 (at1))]) (st := [.long (y22), .ref 66]) rfl rfl rfl rfl ⟨rfl, rfl, Nat.le_of_ble_eq_true rfl⟩ rfl rfl (c_sign (dd := d) (hd := by omega) (hW := hWx) (k := at1) (ln := ln) (e_ln := show Gx 9 = ln from ((hFx.1 9 rfl).trans (e_ln))) (le := le) (e_le := show Ax 4 (ln).toNat = le from (congrFun (hFx.2 4 rfl) _).trans (e_le)) (tx := cur) (e_tx := show Ax 0 (at1).toNat = cur from (ex_cur))  (h_k := by omega)  (p_0 := by omega)) (fun o V' hq => ?_)
          obtain ⟨r23, rfl, rfl, b24, p25⟩ := hq
          refine .inr ⟨_, rfl, ?_⟩
          refine jx_st (pc' := 74) (as := [.int (i32 (r23))]) (st := [.long (y22), .ref 66]) rfl rfl ⟨rfl, Nat.le_of_ble_eq_true rfl⟩ rfl rfl rfl (c_digit (dd := d) (hd := by omega) (c := r23)   (h_c := by omega)  ) (fun o V' hq => ?_)
          obtain ⟨r26, rfl, rfl, p27⟩ := hq
          refine .inr ⟨_, rfl, ?_⟩
          refine jx_ar (pc' := 75) (st' := .long ((y22 : Int64) + (r26)) :: [.ref 66]) rfl rfl rfl rfl ?_
          obtain ⟨y28, ey28⟩ : ∃ q : Int64, q = (y22 : Int64) + (r26) := ⟨_, rfl⟩
          rw [← ey28]
          refine jx_go (tg := 82) rfl rfl ?_
          have rl29 := i64_rg (y28)
          refine jr_put (pc' := 85) (i := 14) (z := (y28 : Int64).toInt) rfl rfl (by decide) rfl rfl rfl rfl (congrArg Value.long (i64_of (y28))) rfl ?_
          have hW30 : Wk (uG Gx 14 ((y28 : Int64).toInt)) Ax := Wk_g hWx (show (-9223372036854775808 : Int) ≤ (y28 : Int64).toInt by omega) (show (y28 : Int64).toInt ≤ (9223372036854775807 : Int) by omega)
          have hF31 := Fr_g (z := (y28 : Int64).toInt) (i := 14) hFx (by decide)
          refine jx_inc (pc' := 88) (l' := jSto1 L 1 (.int (i32 ((n + (1)))))) (x := n) rfl gL_1 (by decide) rfl rfl ?_
          obtain ⟨L32, eL32⟩ : ∃ q, q = jSto1 L 1 (.int (i32 ((n + (1))))) := ⟨_, rfl⟩
          rw [← eL32]
          have gL32_0 : jGet L32 0 = some (.ref 66) := eL32 ▸ jg_ne (by decide) gL_0 rfl
          have gL32_1 : jGet L32 1 = some (.int (i32 ((n + (1))))) := eL32 ▸ jg_eq
          refine jx_ld (pc' := 89) (l' := L32) (st' := [.ref 66]) rfl (jl_aloadn gL32_0) ?_
          refine jx_ar (pc' := 90) (st' := [.ref 66, .ref 66]) rfl rfl rfl rfl ?_
          refine jr_get (pc' := 93) (i := 10) (v := .int (i32 (at1))) rfl rfl (by decide) (rFv_eq (by decide) (show (uG Gx 14 ((y28 : Int64).toInt)) 10 = at1 from (ex_at1))) rfl ?_
          refine jx_ar (pc' := 94) (st' := [.int (i32 (1)), .int (i32 (at1)), .ref 66]) rfl rfl rfl rfl ?_
          refine jx_add (pc' := 95) rfl rfl ?_
          refine jr_put (pc' := 98) (i := 10) (z := (at1 + 1)) rfl rfl (by decide) rfl rfl rfl rfl rfl rfl ?_
          have hW33 : Wk (uG (uG Gx 14 ((y28 : Int64).toInt)) 10 ((at1 + 1))) Ax := Wk_g hW30 (show (0 : Int) ≤ (at1 + 1) by omega) (show (at1 + 1) ≤ (3002 : Int) by omega)
          have hF34 := Fr_g (z := (at1 + 1)) (i := 10) hF31 (by decide)
          refine jx_go (tg := 7) rfl rfl ?_
          exact ih _ (by omega) L32 (uG (uG Gx 14 ((y28 : Int64).toInt)) 10 ((at1 + 1))) Ax ((n + (1))) ((at1 + 1)) (A 0 ((at1 + 1)).toNat) rfl gL32_0 gL32_1 hW33 hF34 (rfl) ((congrFun (hFx.2 0 rfl) _)) (by omega) (by omega) (by omega) (by omega)
      · have _q := h12
        refine jx_ld (pc' := 22) (l' := L) (st' := [.ref 66]) rfl (jl_aloadn gL_0) ?_
        refine jx_ld (pc' := 23) (l' := L) (st' := [.ref 66, .ref 66]) rfl (jl_aloadn gL_0) ?_
        refine jr_get (pc' := 26) (i := 10) (v := .int (i32 (at1))) rfl rfl (by decide) (rFv_eq (by decide) (show Gx 10 = at1 from (ex_at1))) rfl ?_
        refine jx_vr (pc' := 29) (as := [.int (i32 (at1))]) (st := []) rfl rfl rfl rfl ⟨rfl, rfl, Nat.le_of_ble_eq_true rfl⟩ rfl rfl (c_sign (dd := d) (hd := by omega) (hW := hWx) (k := at1) (ln := ln) (e_ln := show Gx 9 = ln from ((hFx.1 9 rfl).trans (e_ln))) (le := le) (e_le := show Ax 4 (ln).toNat = le from (congrFun (hFx.2 4 rfl) _).trans (e_le)) (tx := cur) (e_tx := show Ax 0 (at1).toNat = cur from (ex_cur))  (h_k := by omega)  (p_0 := by omega)) (fun o V' hq => ?_)
        obtain ⟨r35, rfl, rfl, b36, p37⟩ := hq
        refine .inr ⟨_, rfl, ?_⟩
        refine jx_st (pc' := 32) (as := [.int (i32 (r35))]) (st := []) rfl rfl ⟨rfl, Nat.le_of_ble_eq_true rfl⟩ rfl rfl rfl (c_isDigit (dd := d) (hd := by omega) (v := r35)   (h_v := by omega)  ) (fun o V' hq => ?_)
        obtain ⟨r38, rfl, rfl, b39, p40⟩ := hq
        refine .inr ⟨_, rfl, ?_⟩
        refine jx_if_ne (pc' := 35) (tg := 48) rfl rfl rfl (by omega) (by omega) (fun h41 => ?_) (fun h41 => ?_)
        · have _q := h41
          refine jx_ld (pc' := 49) (l' := L) (st' := [.ref 66]) rfl (jl_aloadn gL_0) ?_
          refine jx_ld (pc' := 50) (l' := L) (st' := [.int (i32 (n)), .ref 66]) rfl (jl_iloadn gL_1) ?_
          refine jx_ar (pc' := 52) (st' := [.int (i32 (10)), .int (i32 (n)), .ref 66]) rfl rfl rfl rfl ?_
          refine jx_icmp_ge (pc' := 55) (tg := 78) rfl rfl rfl (by omega) (by omega) (by omega) (by omega) (fun h42 => ?_) (fun h42 => ?_)
          · have _q := h42
            refine jx_ld (pc' := 79) (l' := L) (st' := [.ref 66, .ref 66]) rfl (jl_aloadn gL_0) ?_
            refine jr_get (pc' := 82) (i := 14) (v := .long (i64 (Gx 14))) rfl rfl (by decide) rfl rfl ?_
            obtain ⟨y43, ey43⟩ : ∃ q : Int64, q = i64 (Gx 14) := ⟨_, rfl⟩
            rw [← ey43]
            have rl44 := i64_rg (y43)
            refine jr_put (pc' := 85) (i := 14) (z := (y43 : Int64).toInt) rfl rfl (by decide) rfl rfl rfl rfl (congrArg Value.long (i64_of (y43))) rfl ?_
            have hW45 : Wk (uG Gx 14 ((y43 : Int64).toInt)) Ax := Wk_g hWx (show (-9223372036854775808 : Int) ≤ (y43 : Int64).toInt by omega) (show (y43 : Int64).toInt ≤ (9223372036854775807 : Int) by omega)
            have hF46 := Fr_g (z := (y43 : Int64).toInt) (i := 14) hFx (by decide)
            refine jx_inc (pc' := 88) (l' := jSto1 L 1 (.int (i32 ((n + (1)))))) (x := n) rfl gL_1 (by decide) rfl rfl ?_
            obtain ⟨L47, eL47⟩ : ∃ q, q = jSto1 L 1 (.int (i32 ((n + (1))))) := ⟨_, rfl⟩
            rw [← eL47]
            have gL47_0 : jGet L47 0 = some (.ref 66) := eL47 ▸ jg_ne (by decide) gL_0 rfl
            have gL47_1 : jGet L47 1 = some (.int (i32 ((n + (1))))) := eL47 ▸ jg_eq
            refine jx_ld (pc' := 89) (l' := L47) (st' := [.ref 66]) rfl (jl_aloadn gL47_0) ?_
            refine jx_ar (pc' := 90) (st' := [.ref 66, .ref 66]) rfl rfl rfl rfl ?_
            refine jr_get (pc' := 93) (i := 10) (v := .int (i32 (at1))) rfl rfl (by decide) (rFv_eq (by decide) (show (uG Gx 14 ((y43 : Int64).toInt)) 10 = at1 from (ex_at1))) rfl ?_
            refine jx_ar (pc' := 94) (st' := [.int (i32 (1)), .int (i32 (at1)), .ref 66]) rfl rfl rfl rfl ?_
            refine jx_add (pc' := 95) rfl rfl ?_
            refine jr_put (pc' := 98) (i := 10) (z := (at1 + 1)) rfl rfl (by decide) rfl rfl rfl rfl rfl rfl ?_
            have hW48 : Wk (uG (uG Gx 14 ((y43 : Int64).toInt)) 10 ((at1 + 1))) Ax := Wk_g hW45 (show (0 : Int) ≤ (at1 + 1) by omega) (show (at1 + 1) ≤ (3002 : Int) by omega)
            have hF49 := Fr_g (z := (at1 + 1)) (i := 10) hF46 (by decide)
            refine jx_go (tg := 7) rfl rfl ?_
            exact ih _ (by omega) L47 (uG (uG Gx 14 ((y43 : Int64).toInt)) 10 ((at1 + 1))) Ax ((n + (1))) ((at1 + 1)) (A 0 ((at1 + 1)).toNat) rfl gL47_0 gL47_1 hW48 hF49 (rfl) ((congrFun (hFx.2 0 rfl) _)) (by omega) (by omega) (by omega) (by omega)
          · have _q := h42
            refine jx_hp (pc' := 58) (st' := [.long (38), .ref 66]) rfl rfl rfl rfl rfl rfl ?_
            refine jx_ld (pc' := 59) (l' := L) (st' := [.ref 66, .long (38), .ref 66]) rfl (jl_aloadn gL_0) ?_
            refine jr_get (pc' := 62) (i := 14) (v := .long (i64 (Gx 14))) rfl rfl (by decide) rfl rfl ?_
            obtain ⟨y50, ey50⟩ : ∃ q : Int64, q = i64 (Gx 14) := ⟨_, rfl⟩
            rw [← ey50]
            refine jx_ar (pc' := 63) (st' := .long ((38 : Int64) * (y50)) :: [.ref 66]) rfl rfl rfl rfl ?_
            obtain ⟨y51, ey51⟩ : ∃ q : Int64, q = (38 : Int64) * (y50) := ⟨_, rfl⟩
            rw [← ey51]
            refine jx_ld (pc' := 64) (l' := L) (st' := [.ref 66, .long (y51), .ref 66]) rfl (jl_aloadn gL_0) ?_
            refine jx_ld (pc' := 65) (l' := L) (st' := [.ref 66, .ref 66, .long (y51), .ref 66]) rfl (jl_aloadn gL_0) ?_
            refine jr_get (pc' := 68) (i := 10) (v := .int (i32 (at1))) rfl rfl (by decide) (rFv_eq (by decide) (show Gx 10 = at1 from (ex_at1))) rfl ?_
            refine jx_vr (pc' := 71) (as := [.int (i32 (at1))]) (st := [.long (y51), .ref 66]) rfl rfl rfl rfl ⟨rfl, rfl, Nat.le_of_ble_eq_true rfl⟩ rfl rfl (c_sign (dd := d) (hd := by omega) (hW := hWx) (k := at1) (ln := ln) (e_ln := show Gx 9 = ln from ((hFx.1 9 rfl).trans (e_ln))) (le := le) (e_le := show Ax 4 (ln).toNat = le from (congrFun (hFx.2 4 rfl) _).trans (e_le)) (tx := cur) (e_tx := show Ax 0 (at1).toNat = cur from (ex_cur))  (h_k := by omega)  (p_0 := by omega)) (fun o V' hq => ?_)
            obtain ⟨r52, rfl, rfl, b53, p54⟩ := hq
            refine .inr ⟨_, rfl, ?_⟩
            refine jx_st (pc' := 74) (as := [.int (i32 (r52))]) (st := [.long (y51), .ref 66]) rfl rfl ⟨rfl, Nat.le_of_ble_eq_true rfl⟩ rfl rfl rfl (c_digit (dd := d) (hd := by omega) (c := r52)   (h_c := by omega)  ) (fun o V' hq => ?_)
            obtain ⟨r55, rfl, rfl, p56⟩ := hq
            refine .inr ⟨_, rfl, ?_⟩
            refine jx_ar (pc' := 75) (st' := .long ((y51 : Int64) + (r55)) :: [.ref 66]) rfl rfl rfl rfl ?_
            obtain ⟨y57, ey57⟩ : ∃ q : Int64, q = (y51 : Int64) + (r55) := ⟨_, rfl⟩
            rw [← ey57]
            refine jx_go (tg := 82) rfl rfl ?_
            have rl58 := i64_rg (y57)
            refine jr_put (pc' := 85) (i := 14) (z := (y57 : Int64).toInt) rfl rfl (by decide) rfl rfl rfl rfl (congrArg Value.long (i64_of (y57))) rfl ?_
            have hW59 : Wk (uG Gx 14 ((y57 : Int64).toInt)) Ax := Wk_g hWx (show (-9223372036854775808 : Int) ≤ (y57 : Int64).toInt by omega) (show (y57 : Int64).toInt ≤ (9223372036854775807 : Int) by omega)
            have hF60 := Fr_g (z := (y57 : Int64).toInt) (i := 14) hFx (by decide)
            refine jx_inc (pc' := 88) (l' := jSto1 L 1 (.int (i32 ((n + (1)))))) (x := n) rfl gL_1 (by decide) rfl rfl ?_
            obtain ⟨L61, eL61⟩ : ∃ q, q = jSto1 L 1 (.int (i32 ((n + (1))))) := ⟨_, rfl⟩
            rw [← eL61]
            have gL61_0 : jGet L61 0 = some (.ref 66) := eL61 ▸ jg_ne (by decide) gL_0 rfl
            have gL61_1 : jGet L61 1 = some (.int (i32 ((n + (1))))) := eL61 ▸ jg_eq
            refine jx_ld (pc' := 89) (l' := L61) (st' := [.ref 66]) rfl (jl_aloadn gL61_0) ?_
            refine jx_ar (pc' := 90) (st' := [.ref 66, .ref 66]) rfl rfl rfl rfl ?_
            refine jr_get (pc' := 93) (i := 10) (v := .int (i32 (at1))) rfl rfl (by decide) (rFv_eq (by decide) (show (uG Gx 14 ((y57 : Int64).toInt)) 10 = at1 from (ex_at1))) rfl ?_
            refine jx_ar (pc' := 94) (st' := [.int (i32 (1)), .int (i32 (at1)), .ref 66]) rfl rfl rfl rfl ?_
            refine jx_add (pc' := 95) rfl rfl ?_
            refine jr_put (pc' := 98) (i := 10) (z := (at1 + 1)) rfl rfl (by decide) rfl rfl rfl rfl rfl rfl ?_
            have hW62 : Wk (uG (uG Gx 14 ((y57 : Int64).toInt)) 10 ((at1 + 1))) Ax := Wk_g hW59 (show (0 : Int) ≤ (at1 + 1) by omega) (show (at1 + 1) ≤ (3002 : Int) by omega)
            have hF63 := Fr_g (z := (at1 + 1)) (i := 10) hF60 (by decide)
            refine jx_go (tg := 7) rfl rfl ?_
            exact ih _ (by omega) L61 (uG (uG Gx 14 ((y57 : Int64).toInt)) 10 ((at1 + 1))) Ax ((n + (1))) ((at1 + 1)) (A 0 ((at1 + 1)).toNat) rfl gL61_0 gL61_1 hW62 hF63 (rfl) ((congrFun (hFx.2 0 rfl) _)) (by omega) (by omega) (by omega) (by omega)
        · have _q := h41
          refine jx_ld (pc' := 36) (l' := L) (st' := [.ref 66]) rfl (jl_aloadn gL_0) ?_
          refine jx_ld (pc' := 37) (l' := L) (st' := [.ref 66, .ref 66]) rfl (jl_aloadn gL_0) ?_
          refine jr_get (pc' := 40) (i := 10) (v := .int (i32 (at1))) rfl rfl (by decide) (rFv_eq (by decide) (show Gx 10 = at1 from (ex_at1))) rfl ?_
          refine jx_vr (pc' := 43) (as := [.int (i32 (at1))]) (st := []) rfl rfl rfl rfl ⟨rfl, rfl, Nat.le_of_ble_eq_true rfl⟩ rfl rfl (c_sign (dd := d) (hd := by omega) (hW := hWx) (k := at1) (ln := ln) (e_ln := show Gx 9 = ln from ((hFx.1 9 rfl).trans (e_ln))) (le := le) (e_le := show Ax 4 (ln).toNat = le from (congrFun (hFx.2 4 rfl) _).trans (e_le)) (tx := cur) (e_tx := show Ax 0 (at1).toNat = cur from (ex_cur))  (h_k := by omega)  (p_0 := by omega)) (fun o V' hq => ?_)
          obtain ⟨r64, rfl, rfl, b65, p66⟩ := hq
          refine .inr ⟨_, rfl, ?_⟩
          refine jx_ar (pc' := 45) (st' := [.int (i32 (46)), .int (i32 (r64))]) rfl rfl rfl rfl ?_
          refine jx_icmp_ne (pc' := 48) (tg := 101) rfl rfl rfl (by omega) (by omega) (by omega) (by omega) (fun h67 => ?_) (fun h67 => ?_)
          · have _q := h67
            refine jx_ld (pc' := 102) (l' := L) (st' := [.ref 66]) rfl (jl_aloadn gL_0) ?_
            refine jx_ld (pc' := 103) (l' := L) (st' := [.int (i32 (n)), .ref 66]) rfl (jl_iloadn gL_1) ?_
            refine jx_ar (pc' := 105) (st' := [.int (i32 (10)), .int (i32 (n)), .ref 66]) rfl rfl rfl rfl ?_
            refine jx_icmp_le (pc' := 108) (tg := 112) rfl rfl rfl (by omega) (by omega) (by omega) (by omega) (fun h68 => ?_) (fun h68 => ?_)
            · have _q := h68
              refine jx_ar (pc' := 113) (st' := [.int (i32 (1)), .ref 66]) rfl rfl rfl rfl ?_
              refine jr_put (pc' := 116) (i := 11) (z := 1) rfl rfl (by decide) rfl rfl rfl rfl rfl rfl ?_
              have hW69 : Wk (uG Gx 11 (1)) Ax := Wk_g hWx (show (0 : Int) ≤ 1 by omega) (show 1 ≤ (5 : Int) by omega)
              have hF70 := Fr_g (z := 1) (i := 11) hFx (by decide)
              refine jx_rt (v := none) rfl rfl rfl rfl rfl rfl ?_
              exact ⟨_, _, at1, 1, rfl, rfl, hW69, hF70, (ex_at1), rfl, by omega⟩
            · have _q := h68
              refine jx_ar (pc' := 109) (st' := [.int (i32 (5)), .ref 66]) rfl rfl rfl rfl ?_
              refine jx_go (tg := 113) rfl rfl ?_
              refine jr_put (pc' := 116) (i := 11) (z := 5) rfl rfl (by decide) rfl rfl rfl rfl rfl rfl ?_
              have hW71 : Wk (uG Gx 11 (5)) Ax := Wk_g hWx (show (0 : Int) ≤ 5 by omega) (show 5 ≤ (5 : Int) by omega)
              have hF72 := Fr_g (z := 5) (i := 11) hFx (by decide)
              refine jx_rt (v := none) rfl rfl rfl rfl rfl rfl ?_
              exact ⟨_, _, at1, 5, rfl, rfl, hW71, hF72, (ex_at1), rfl, by omega⟩
          · have _q := h67
            refine jx_ld (pc' := 49) (l' := L) (st' := [.ref 66]) rfl (jl_aloadn gL_0) ?_
            refine jx_ld (pc' := 50) (l' := L) (st' := [.int (i32 (n)), .ref 66]) rfl (jl_iloadn gL_1) ?_
            refine jx_ar (pc' := 52) (st' := [.int (i32 (10)), .int (i32 (n)), .ref 66]) rfl rfl rfl rfl ?_
            refine jx_icmp_ge (pc' := 55) (tg := 78) rfl rfl rfl (by omega) (by omega) (by omega) (by omega) (fun h73 => ?_) (fun h73 => ?_)
            · have _q := h73
              refine jx_ld (pc' := 79) (l' := L) (st' := [.ref 66, .ref 66]) rfl (jl_aloadn gL_0) ?_
              refine jr_get (pc' := 82) (i := 14) (v := .long (i64 (Gx 14))) rfl rfl (by decide) rfl rfl ?_
              obtain ⟨y74, ey74⟩ : ∃ q : Int64, q = i64 (Gx 14) := ⟨_, rfl⟩
              rw [← ey74]
              have rl75 := i64_rg (y74)
              refine jr_put (pc' := 85) (i := 14) (z := (y74 : Int64).toInt) rfl rfl (by decide) rfl rfl rfl rfl (congrArg Value.long (i64_of (y74))) rfl ?_
              have hW76 : Wk (uG Gx 14 ((y74 : Int64).toInt)) Ax := Wk_g hWx (show (-9223372036854775808 : Int) ≤ (y74 : Int64).toInt by omega) (show (y74 : Int64).toInt ≤ (9223372036854775807 : Int) by omega)
              have hF77 := Fr_g (z := (y74 : Int64).toInt) (i := 14) hFx (by decide)
              refine jx_inc (pc' := 88) (l' := jSto1 L 1 (.int (i32 ((n + (1)))))) (x := n) rfl gL_1 (by decide) rfl rfl ?_
              obtain ⟨L78, eL78⟩ : ∃ q, q = jSto1 L 1 (.int (i32 ((n + (1))))) := ⟨_, rfl⟩
              rw [← eL78]
              have gL78_0 : jGet L78 0 = some (.ref 66) := eL78 ▸ jg_ne (by decide) gL_0 rfl
              have gL78_1 : jGet L78 1 = some (.int (i32 ((n + (1))))) := eL78 ▸ jg_eq
              refine jx_ld (pc' := 89) (l' := L78) (st' := [.ref 66]) rfl (jl_aloadn gL78_0) ?_
              refine jx_ar (pc' := 90) (st' := [.ref 66, .ref 66]) rfl rfl rfl rfl ?_
              refine jr_get (pc' := 93) (i := 10) (v := .int (i32 (at1))) rfl rfl (by decide) (rFv_eq (by decide) (show (uG Gx 14 ((y74 : Int64).toInt)) 10 = at1 from (ex_at1))) rfl ?_
              refine jx_ar (pc' := 94) (st' := [.int (i32 (1)), .int (i32 (at1)), .ref 66]) rfl rfl rfl rfl ?_
              refine jx_add (pc' := 95) rfl rfl ?_
              refine jr_put (pc' := 98) (i := 10) (z := (at1 + 1)) rfl rfl (by decide) rfl rfl rfl rfl rfl rfl ?_
              have hW79 : Wk (uG (uG Gx 14 ((y74 : Int64).toInt)) 10 ((at1 + 1))) Ax := Wk_g hW76 (show (0 : Int) ≤ (at1 + 1) by omega) (show (at1 + 1) ≤ (3002 : Int) by omega)
              have hF80 := Fr_g (z := (at1 + 1)) (i := 10) hF77 (by decide)
              refine jx_go (tg := 7) rfl rfl ?_
              exact ih _ (by omega) L78 (uG (uG Gx 14 ((y74 : Int64).toInt)) 10 ((at1 + 1))) Ax ((n + (1))) ((at1 + 1)) (A 0 ((at1 + 1)).toNat) rfl gL78_0 gL78_1 hW79 hF80 (rfl) ((congrFun (hFx.2 0 rfl) _)) (by omega) (by omega) (by omega) (by omega)
            · have _q := h73
              refine jx_hp (pc' := 58) (st' := [.long (38), .ref 66]) rfl rfl rfl rfl rfl rfl ?_
              refine jx_ld (pc' := 59) (l' := L) (st' := [.ref 66, .long (38), .ref 66]) rfl (jl_aloadn gL_0) ?_
              refine jr_get (pc' := 62) (i := 14) (v := .long (i64 (Gx 14))) rfl rfl (by decide) rfl rfl ?_
              obtain ⟨y81, ey81⟩ : ∃ q : Int64, q = i64 (Gx 14) := ⟨_, rfl⟩
              rw [← ey81]
              refine jx_ar (pc' := 63) (st' := .long ((38 : Int64) * (y81)) :: [.ref 66]) rfl rfl rfl rfl ?_
              obtain ⟨y82, ey82⟩ : ∃ q : Int64, q = (38 : Int64) * (y81) := ⟨_, rfl⟩
              rw [← ey82]
              refine jx_ld (pc' := 64) (l' := L) (st' := [.ref 66, .long (y82), .ref 66]) rfl (jl_aloadn gL_0) ?_
              refine jx_ld (pc' := 65) (l' := L) (st' := [.ref 66, .ref 66, .long (y82), .ref 66]) rfl (jl_aloadn gL_0) ?_
              refine jr_get (pc' := 68) (i := 10) (v := .int (i32 (at1))) rfl rfl (by decide) (rFv_eq (by decide) (show Gx 10 = at1 from (ex_at1))) rfl ?_
              refine jx_vr (pc' := 71) (as := [.int (i32 (at1))]) (st := [.long (y82), .ref 66]) rfl rfl rfl rfl ⟨rfl, rfl, Nat.le_of_ble_eq_true rfl⟩ rfl rfl (c_sign (dd := d) (hd := by omega) (hW := hWx) (k := at1) (ln := ln) (e_ln := show Gx 9 = ln from ((hFx.1 9 rfl).trans (e_ln))) (le := le) (e_le := show Ax 4 (ln).toNat = le from (congrFun (hFx.2 4 rfl) _).trans (e_le)) (tx := cur) (e_tx := show Ax 0 (at1).toNat = cur from (ex_cur))  (h_k := by omega)  (p_0 := by omega)) (fun o V' hq => ?_)
              obtain ⟨r83, rfl, rfl, b84, p85⟩ := hq
              refine .inr ⟨_, rfl, ?_⟩
              refine jx_st (pc' := 74) (as := [.int (i32 (r83))]) (st := [.long (y82), .ref 66]) rfl rfl ⟨rfl, Nat.le_of_ble_eq_true rfl⟩ rfl rfl rfl (c_digit (dd := d) (hd := by omega) (c := r83)   (h_c := by omega)  ) (fun o V' hq => ?_)
              obtain ⟨r86, rfl, rfl, p87⟩ := hq
              refine .inr ⟨_, rfl, ?_⟩
              refine jx_ar (pc' := 75) (st' := .long ((y82 : Int64) + (r86)) :: [.ref 66]) rfl rfl rfl rfl ?_
              obtain ⟨y88, ey88⟩ : ∃ q : Int64, q = (y82 : Int64) + (r86) := ⟨_, rfl⟩
              rw [← ey88]
              refine jx_go (tg := 82) rfl rfl ?_
              have rl89 := i64_rg (y88)
              refine jr_put (pc' := 85) (i := 14) (z := (y88 : Int64).toInt) rfl rfl (by decide) rfl rfl rfl rfl (congrArg Value.long (i64_of (y88))) rfl ?_
              have hW90 : Wk (uG Gx 14 ((y88 : Int64).toInt)) Ax := Wk_g hWx (show (-9223372036854775808 : Int) ≤ (y88 : Int64).toInt by omega) (show (y88 : Int64).toInt ≤ (9223372036854775807 : Int) by omega)
              have hF91 := Fr_g (z := (y88 : Int64).toInt) (i := 14) hFx (by decide)
              refine jx_inc (pc' := 88) (l' := jSto1 L 1 (.int (i32 ((n + (1)))))) (x := n) rfl gL_1 (by decide) rfl rfl ?_
              obtain ⟨L92, eL92⟩ : ∃ q, q = jSto1 L 1 (.int (i32 ((n + (1))))) := ⟨_, rfl⟩
              rw [← eL92]
              have gL92_0 : jGet L92 0 = some (.ref 66) := eL92 ▸ jg_ne (by decide) gL_0 rfl
              have gL92_1 : jGet L92 1 = some (.int (i32 ((n + (1))))) := eL92 ▸ jg_eq
              refine jx_ld (pc' := 89) (l' := L92) (st' := [.ref 66]) rfl (jl_aloadn gL92_0) ?_
              refine jx_ar (pc' := 90) (st' := [.ref 66, .ref 66]) rfl rfl rfl rfl ?_
              refine jr_get (pc' := 93) (i := 10) (v := .int (i32 (at1))) rfl rfl (by decide) (rFv_eq (by decide) (show (uG Gx 14 ((y88 : Int64).toInt)) 10 = at1 from (ex_at1))) rfl ?_
              refine jx_ar (pc' := 94) (st' := [.int (i32 (1)), .int (i32 (at1)), .ref 66]) rfl rfl rfl rfl ?_
              refine jx_add (pc' := 95) rfl rfl ?_
              refine jr_put (pc' := 98) (i := 10) (z := (at1 + 1)) rfl rfl (by decide) rfl rfl rfl rfl rfl rfl ?_
              have hW93 : Wk (uG (uG Gx 14 ((y88 : Int64).toInt)) 10 ((at1 + 1))) Ax := Wk_g hW90 (show (0 : Int) ≤ (at1 + 1) by omega) (show (at1 + 1) ≤ (3002 : Int) by omega)
              have hF94 := Fr_g (z := (at1 + 1)) (i := 10) hF91 (by decide)
              refine jx_go (tg := 7) rfl rfl ?_
              exact ih _ (by omega) L92 (uG (uG Gx 14 ((y88 : Int64).toInt)) 10 ((at1 + 1))) Ax ((n + (1))) ((at1 + 1)) (A 0 ((at1 + 1)).toNat) rfl gL92_0 gL92_1 hW93 hF94 (rfl) ((congrFun (hFx.2 0 rfl) _)) (by omega) (by omega) (by omega) (by omega)
  exact loop5 _ L1 (uG G 14 ((Int64.ofNat 0 : Int64).toInt)) A (0) (at0) (tx) rfl gL1_0 gL1_1 hW3 hF4 ((e_at0)) ((e_tx)) (by omega) (by omega) (by omega) (by omega)
set_option maxRecDepth 20000 in
set_option maxHeartbeats 4000000 in
theorem c_keyToken {X : jX} {dd : Nat} {c0 c1 : jC} {G : Nat → Int} {A : Nat → Nat → Int} {T : jH} {ln le at0 tx : Int} (hd : 2 ≤ dd) (hW : Wk G A) (e_ln : G 9 = ln) (e_le : A 4 (ln).toNat = le) (e_at0 : G 10 = at0) (e_tx : A 0 (at0).toNat = tx) (p_0 : at0 < le) (p_1 : 65 ≤ tx ∧ tx ≤ 90) : wk X dd 262 [.ref 66] (rV c0 c1 G A T) (fun o V' => ∃ (G' : Nat → Int) (A' : Nat → Nat → Int) (at2 : Int) (tk2 : Int), V' = rV c0 c1 G' A' T ∧ o = .inl none ∧ Wk G' A' ∧ Fr [10, 11, 13] [] G A G' A' ∧ G' 10 = at2 ∧ G' 11 = tk2 ∧ (at0 < at2 ∧ at2 ≤ le) ∧ (tk2 = 2 ∨ tk2 = 5)) := by
  obtain ⟨d, rfl⟩ : ∃ d, dd = d + 1 := ⟨dd - 1, by omega⟩
  refine wk_of (e := jm262) rfl (Nat.le_of_ble_eq_true rfl) ?_
  show wj X d jm262 (0, [(0, .ref 66)], [], rV c0 c1 G A T) _
  have hF0 : Fr [10, 11, 13] [] G A G A := Fr_rf
  have b_ln : (0 : Int) ≤ ln ∧ ln ≤ 3000 := e_ln ▸ hW.1 9
  have b_le : (0 : Int) ≤ le ∧ le ≤ 3000 := e_le ▸ hW.2 4 _
  have b_at0 : (0 : Int) ≤ at0 ∧ at0 ≤ 3002 := e_at0 ▸ hW.1 10
  have b_tx : (0 : Int) ≤ tx ∧ tx ≤ 126 := e_tx ▸ hW.2 0 _
  refine jx_ar (pc' := 1) (st' := [.int (i32 (0))]) rfl rfl rfl rfl ?_
  refine jx_ld (pc' := 2) (l' := jSto1 [(0, .ref 66)] 1 (.int (i32 (0)))) (st' := []) rfl rfl ?_
  obtain ⟨L1, eL1⟩ : ∃ q, q = jSto1 [(0, .ref 66)] 1 (.int (i32 (0))) := ⟨_, rfl⟩
  rw [← eL1]
  have gL1_0 : jGet L1 0 = some (.ref 66) := eL1 ▸ jg_ne (by decide) (rfl : jGet [(0, .ref 66)] 0 = some (.ref 66)) rfl
  have gL1_1 : jGet L1 1 = some (.int (i32 (0))) := eL1 ▸ jg_eq
  refine jx_ar (pc' := 3) (st' := [.long (Int64.ofNat 0)]) rfl rfl rfl rfl ?_
  refine jx_ld (pc' := 4) (l' := jSto2 L1 2 (.long (Int64.ofNat 0))) (st' := []) rfl rfl ?_
  obtain ⟨L2, eL2⟩ : ∃ q, q = jSto2 L1 2 (.long (Int64.ofNat 0)) := ⟨_, rfl⟩
  rw [← eL2]
  have gL2_0 : jGet L2 0 = some (.ref 66) := eL2 ▸ jg_ne2 (by decide) (by decide) gL1_0 (.inl rfl)
  have gL2_1 : jGet L2 1 = some (.int (i32 (0))) := eL2 ▸ jg_ne2 (by decide) (by decide) gL1_1 (.inl rfl)
  have gL2_2 : jGet L2 2 = some (.long (Int64.ofNat 0)) := eL2 ▸ jg_eq2
  have loop3 : ∀ (m : Nat) (L : jL) (Gx : Nat → Int) (Ax : Nat → Nat → Int) (n at1 cur : Int) (v : Int64), (le - at1).toNat = m → jGet L 0 = some (.ref 66) → jGet L 1 = some (.int (i32 n)) → jGet L 2 = some (.long v) → Wk Gx Ax → Fr [10, 11, 13] [] G A Gx Ax → Gx 10 = at1 → Ax 0 (at1).toNat = cur → ((-2147483648 : Int) ≤ n ∧ n ≤ 2147483647) → (at0 ≤ at1 ∧ at1 ≤ le) → (at1 = at0 → cur = tx) → (n = at1 - at0) → wj X d jm262 (4, L, [], rV c0 c1 Gx Ax T) (fun o V' => ∃ (G' : Nat → Int) (A' : Nat → Nat → Int) (at2 : Int) (tk2 : Int), V' = rV c0 c1 G' A' T ∧ o = .inl none ∧ Wk G' A' ∧ Fr [10, 11, 13] [] G A G' A' ∧ G' 10 = at2 ∧ G' 11 = tk2 ∧ (at0 < at2 ∧ at2 ≤ le) ∧ (tk2 = 2 ∨ tk2 = 5)) := by
    intro m
    induction m using Nat.strongRecOn with
    | ind m ih =>
      intro L Gx Ax n at1 cur v hm gL_0 gL_1 gL_2 hWx hFx ex_at1 ex_cur rx_n iv_0 iv_1 iv_2
      have b_at1 : (0 : Int) ≤ at1 ∧ at1 ≤ 3002 := ex_at1 ▸ hWx.1 10
      refine jx_ld (pc' := 5) (l' := L) (st' := [.ref 66]) rfl (jl_aloadn gL_0) ?_
      refine jx_ld (pc' := 6) (l' := L) (st' := [.ref 66, .ref 66]) rfl (jl_aloadn gL_0) ?_
      refine jr_get (pc' := 9) (i := 10) (v := .int (i32 (at1))) rfl rfl (by decide) (rFv_eq (by decide) (show Gx 10 = at1 from (ex_at1))) rfl ?_
      refine jx_vr (pc' := 12) (as := [.int (i32 (at1))]) (st := []) rfl rfl rfl rfl ⟨rfl, rfl, Nat.le_of_ble_eq_true rfl⟩ rfl rfl (c_sign (dd := d) (hd := by omega) (hW := hWx) (k := at1) (ln := ln) (e_ln := show Gx 9 = ln from ((hFx.1 9 rfl).trans (e_ln))) (le := le) (e_le := show Ax 4 (ln).toNat = le from (congrFun (hFx.2 4 rfl) _).trans (e_le)) (tx := cur) (e_tx := show Ax 0 (at1).toNat = cur from (ex_cur))  (h_k := by omega)  (p_0 := by omega)) (fun o V' hq => ?_)
      obtain ⟨r4, rfl, rfl, b5, p6⟩ := hq
      refine .inr ⟨_, rfl, ?_⟩
      refine jx_st (pc' := 15) (as := [.int (i32 (r4))]) (st := []) rfl rfl ⟨rfl, Nat.le_of_ble_eq_true rfl⟩ rfl rfl rfl (c_isBig (dd := d) (hd := by omega) (v := r4)   (h_v := by omega)  ) (fun o V' hq => ?_)
      obtain ⟨r7, rfl, rfl, b8, p9⟩ := hq
      refine .inr ⟨_, rfl, ?_⟩
      refine jx_if_eq (pc' := 18) (tg := 66) rfl rfl rfl (by omega) (by omega) (fun h10 => ?_) (fun h10 => ?_)
      · have _q := h10
        refine jx_ld (pc' := 67) (l' := L) (st' := [.ref 66]) rfl (jl_aloadn gL_0) ?_
        refine jx_ld (pc' := 68) (l' := L) (st' := [.int (i32 (n)), .ref 66]) rfl (jl_iloadn gL_1) ?_
        refine jx_ar (pc' := 70) (st' := [.int (i32 (12)), .int (i32 (n)), .ref 66]) rfl rfl rfl rfl ?_
        refine jx_icmp_le (pc' := 73) (tg := 77) rfl rfl rfl (by omega) (by omega) (by omega) (by omega) (fun h11 => ?_) (fun h11 => ?_)
        · have _q := h11
          refine jx_ld (pc' := 78) (l' := L) (st' := [.ref 66, .ref 66]) rfl (jl_aloadn gL_0) ?_
          refine jx_ld (pc' := 79) (l' := L) (st' := [.long (v), .ref 66, .ref 66]) rfl (jl_lloadn gL_2) ?_
          refine jx_vr (pc' := 82) (as := [.long (v)]) (st := [.ref 66]) rfl rfl rfl rfl ⟨rfl, rfl, Nat.le_of_ble_eq_true rfl⟩ rfl rfl (c_keyOf (dd := d) (hd := by omega) (hW := hWx) (v := v)     ) (fun o V' hq => ?_)
          obtain ⟨r12, rfl, rfl, b13, p14⟩ := hq
          refine .inr ⟨_, rfl, ?_⟩
          refine jr_put (pc' := 85) (i := 13) (z := r12) rfl rfl (by decide) rfl rfl rfl rfl rfl rfl ?_
          have hW15 : Wk (uG Gx 13 (r12)) Ax := Wk_g hWx (show (-2147483648 : Int) ≤ r12 by omega) (show r12 ≤ (2147483647 : Int) by omega)
          have hF16 := Fr_g (z := r12) (i := 13) hFx (by decide)
          refine jx_ld (pc' := 86) (l' := L) (st' := [.ref 66]) rfl (jl_aloadn gL_0) ?_
          refine jx_ld (pc' := 87) (l' := L) (st' := [.ref 66, .ref 66]) rfl (jl_aloadn gL_0) ?_
          refine jr_get (pc' := 90) (i := 13) (v := .int (i32 (r12))) rfl rfl (by decide) rfl rfl ?_
          refine jx_if_ne (pc' := 93) (tg := 97) rfl rfl rfl (by omega) (by omega) (fun h17 => ?_) (fun h17 => ?_)
          · have _q := h17
            refine jx_ar (pc' := 98) (st' := [.int (i32 (2)), .ref 66]) rfl rfl rfl rfl ?_
            refine jr_put (pc' := 101) (i := 11) (z := 2) rfl rfl (by decide) rfl rfl rfl rfl rfl rfl ?_
            have hW18 : Wk (uG (uG Gx 13 (r12)) 11 (2)) Ax := Wk_g hW15 (show (0 : Int) ≤ 2 by omega) (show 2 ≤ (5 : Int) by omega)
            have hF19 := Fr_g (z := 2) (i := 11) hF16 (by decide)
            refine jx_rt (v := none) rfl rfl rfl rfl rfl rfl ?_
            exact ⟨_, _, at1, 2, rfl, rfl, hW18, hF19, (ex_at1), rfl, by omega⟩
          · have _q := h17
            refine jx_ar (pc' := 94) (st' := [.int (i32 (5)), .ref 66]) rfl rfl rfl rfl ?_
            refine jx_go (tg := 98) rfl rfl ?_
            refine jr_put (pc' := 101) (i := 11) (z := 5) rfl rfl (by decide) rfl rfl rfl rfl rfl rfl ?_
            have hW20 : Wk (uG (uG Gx 13 (r12)) 11 (5)) Ax := Wk_g hW15 (show (0 : Int) ≤ 5 by omega) (show 5 ≤ (5 : Int) by omega)
            have hF21 := Fr_g (z := 5) (i := 11) hF16 (by decide)
            refine jx_rt (v := none) rfl rfl rfl rfl rfl rfl ?_
            exact ⟨_, _, at1, 5, rfl, rfl, hW20, hF21, (ex_at1), rfl, by omega⟩
        · have _q := h11
          refine jx_ar (pc' := 74) (st' := [.int (i32 (0)), .ref 66]) rfl rfl rfl rfl ?_
          refine jx_go (tg := 82) rfl rfl ?_
          refine jr_put (pc' := 85) (i := 13) (z := 0) rfl rfl (by decide) rfl rfl rfl rfl rfl rfl ?_
          have hW22 : Wk (uG Gx 13 (0)) Ax := Wk_g hWx (show (-2147483648 : Int) ≤ 0 by omega) (show 0 ≤ (2147483647 : Int) by omega)
          have hF23 := Fr_g (z := 0) (i := 13) hFx (by decide)
          refine jx_ld (pc' := 86) (l' := L) (st' := [.ref 66]) rfl (jl_aloadn gL_0) ?_
          refine jx_ld (pc' := 87) (l' := L) (st' := [.ref 66, .ref 66]) rfl (jl_aloadn gL_0) ?_
          refine jr_get (pc' := 90) (i := 13) (v := .int (i32 (0))) rfl rfl (by decide) rfl rfl ?_
          refine jx_if_ne (pc' := 93) (tg := 97) rfl rfl rfl (by omega) (by omega) (fun h24 => ?_) (fun h24 => ?_)
          · have _q := h24
            exact absurd h24 (by omega)
          · have _q := h24
            refine jx_ar (pc' := 94) (st' := [.int (i32 (5)), .ref 66]) rfl rfl rfl rfl ?_
            refine jx_go (tg := 98) rfl rfl ?_
            refine jr_put (pc' := 101) (i := 11) (z := 5) rfl rfl (by decide) rfl rfl rfl rfl rfl rfl ?_
            have hW25 : Wk (uG (uG Gx 13 (0)) 11 (5)) Ax := Wk_g hW22 (show (0 : Int) ≤ 5 by omega) (show 5 ≤ (5 : Int) by omega)
            have hF26 := Fr_g (z := 5) (i := 11) hF23 (by decide)
            refine jx_rt (v := none) rfl rfl rfl rfl rfl rfl ?_
            exact ⟨_, _, at1, 5, rfl, rfl, hW25, hF26, (ex_at1), rfl, by omega⟩
      · have _q := h10
        refine jx_ld (pc' := 19) (l' := L) (st' := [.int (i32 (n))]) rfl (jl_iloadn gL_1) ?_
        refine jx_ar (pc' := 21) (st' := [.int (i32 (12)), .int (i32 (n))]) rfl rfl rfl rfl ?_
        refine jx_icmp_ge (pc' := 24) (tg := 48) rfl rfl rfl (by omega) (by omega) (by omega) (by omega) (fun h27 => ?_) (fun h27 => ?_)
        · have _q := h27
          refine jx_ld (pc' := 49) (l' := L) (st' := [.long (v)]) rfl (jl_lloadn gL_2) ?_
          refine jx_ld (pc' := 50) (l' := jSto2 L 2 (.long (v))) (st' := []) rfl rfl ?_
          obtain ⟨L28, eL28⟩ : ∃ q, q = jSto2 L 2 (.long (v)) := ⟨_, rfl⟩
          rw [← eL28]
          have gL28_0 : jGet L28 0 = some (.ref 66) := eL28 ▸ jg_ne2 (by decide) (by decide) gL_0 (.inl rfl)
          have gL28_1 : jGet L28 1 = some (.int (i32 (n))) := eL28 ▸ jg_ne2 (by decide) (by decide) gL_1 (.inl rfl)
          have gL28_2 : jGet L28 2 = some (.long (v)) := eL28 ▸ jg_eq2
          refine jx_inc (pc' := 53) (l' := jSto1 L28 1 (.int (i32 ((n + (1)))))) (x := n) rfl gL28_1 (by decide) rfl rfl ?_
          obtain ⟨L29, eL29⟩ : ∃ q, q = jSto1 L28 1 (.int (i32 ((n + (1))))) := ⟨_, rfl⟩
          rw [← eL29]
          have gL29_0 : jGet L29 0 = some (.ref 66) := eL29 ▸ jg_ne (by decide) gL28_0 rfl
          have gL29_2 : jGet L29 2 = some (.long (v)) := eL29 ▸ jg_nel (by decide) gL28_2 (by decide)
          have gL29_1 : jGet L29 1 = some (.int (i32 ((n + (1))))) := eL29 ▸ jg_eq
          refine jx_ld (pc' := 54) (l' := L29) (st' := [.ref 66]) rfl (jl_aloadn gL29_0) ?_
          refine jx_ar (pc' := 55) (st' := [.ref 66, .ref 66]) rfl rfl rfl rfl ?_
          refine jr_get (pc' := 58) (i := 10) (v := .int (i32 (at1))) rfl rfl (by decide) (rFv_eq (by decide) (show Gx 10 = at1 from (ex_at1))) rfl ?_
          refine jx_ar (pc' := 59) (st' := [.int (i32 (1)), .int (i32 (at1)), .ref 66]) rfl rfl rfl rfl ?_
          refine jx_add (pc' := 60) rfl rfl ?_
          refine jr_put (pc' := 63) (i := 10) (z := (at1 + 1)) rfl rfl (by decide) rfl rfl rfl rfl rfl rfl ?_
          have hW30 : Wk (uG Gx 10 ((at1 + 1))) Ax := Wk_g hWx (show (0 : Int) ≤ (at1 + 1) by omega) (show (at1 + 1) ≤ (3002 : Int) by omega)
          have hF31 := Fr_g (z := (at1 + 1)) (i := 10) hFx (by decide)
          refine jx_go (tg := 4) rfl rfl ?_
          exact ih _ (by omega) L29 (uG Gx 10 ((at1 + 1))) Ax ((n + (1))) ((at1 + 1)) (A 0 ((at1 + 1)).toNat) (v) rfl gL29_0 gL29_1 gL29_2 hW30 hF31 (rfl) ((congrFun (hFx.2 0 rfl) _)) (by omega) (by omega) (by omega) (by omega)
        · have _q := h27
          refine jx_hp (pc' := 27) (st' := [.long (27)]) rfl rfl rfl rfl rfl rfl ?_
          refine jx_ld (pc' := 28) (l' := L) (st' := [.long (v), .long (27)]) rfl (jl_lloadn gL_2) ?_
          refine jx_ar (pc' := 29) (st' := .long ((27 : Int64) * (v)) :: []) rfl rfl rfl rfl ?_
          obtain ⟨y32, ey32⟩ : ∃ q : Int64, q = (27 : Int64) * (v) := ⟨_, rfl⟩
          rw [← ey32]
          refine jx_ld (pc' := 30) (l' := L) (st' := [.ref 66, .long (y32)]) rfl (jl_aloadn gL_0) ?_
          refine jx_ld (pc' := 31) (l' := L) (st' := [.ref 66, .ref 66, .long (y32)]) rfl (jl_aloadn gL_0) ?_
          refine jr_get (pc' := 34) (i := 10) (v := .int (i32 (at1))) rfl rfl (by decide) (rFv_eq (by decide) (show Gx 10 = at1 from (ex_at1))) rfl ?_
          refine jx_vr (pc' := 37) (as := [.int (i32 (at1))]) (st := [.long (y32)]) rfl rfl rfl rfl ⟨rfl, rfl, Nat.le_of_ble_eq_true rfl⟩ rfl rfl (c_sign (dd := d) (hd := by omega) (hW := hWx) (k := at1) (ln := ln) (e_ln := show Gx 9 = ln from ((hFx.1 9 rfl).trans (e_ln))) (le := le) (e_le := show Ax 4 (ln).toNat = le from (congrFun (hFx.2 4 rfl) _).trans (e_le)) (tx := cur) (e_tx := show Ax 0 (at1).toNat = cur from (ex_cur))  (h_k := by omega)  (p_0 := by omega)) (fun o V' hq => ?_)
          obtain ⟨r33, rfl, rfl, b34, p35⟩ := hq
          refine .inr ⟨_, rfl, ?_⟩
          refine jx_ar (pc' := 38) (st' := .long ((i32 (r33)).toInt64) :: [.long (y32)]) rfl rfl rfl rfl ?_
          obtain ⟨y36, ey36⟩ : ∃ q : Int64, q = (i32 (r33)).toInt64 := ⟨_, rfl⟩
          rw [← ey36]
          refine jx_ar (pc' := 39) (st' := .long ((y32 : Int64) + (y36)) :: []) rfl rfl rfl rfl ?_
          obtain ⟨y37, ey37⟩ : ∃ q : Int64, q = (y32 : Int64) + (y36) := ⟨_, rfl⟩
          rw [← ey37]
          refine jx_hp (pc' := 42) (st' := [.long (65), .long (y37)]) rfl rfl rfl rfl rfl rfl ?_
          refine jx_ar (pc' := 43) (st' := .long ((y37 : Int64) - (65)) :: []) rfl rfl rfl rfl ?_
          obtain ⟨y38, ey38⟩ : ∃ q : Int64, q = (y37 : Int64) - (65) := ⟨_, rfl⟩
          rw [← ey38]
          refine jx_ar (pc' := 44) (st' := [.long (Int64.ofNat 1), .long (y38)]) rfl rfl rfl rfl ?_
          refine jx_ar (pc' := 45) (st' := .long ((y38 : Int64) + (Int64.ofNat 1)) :: []) rfl rfl rfl rfl ?_
          obtain ⟨y39, ey39⟩ : ∃ q : Int64, q = (y38 : Int64) + (Int64.ofNat 1) := ⟨_, rfl⟩
          rw [← ey39]
          refine jx_go (tg := 49) rfl rfl ?_
          refine jx_ld (pc' := 50) (l' := jSto2 L 2 (.long (y39))) (st' := []) rfl rfl ?_
          obtain ⟨L40, eL40⟩ : ∃ q, q = jSto2 L 2 (.long (y39)) := ⟨_, rfl⟩
          rw [← eL40]
          have gL40_0 : jGet L40 0 = some (.ref 66) := eL40 ▸ jg_ne2 (by decide) (by decide) gL_0 (.inl rfl)
          have gL40_1 : jGet L40 1 = some (.int (i32 (n))) := eL40 ▸ jg_ne2 (by decide) (by decide) gL_1 (.inl rfl)
          have gL40_2 : jGet L40 2 = some (.long (y39)) := eL40 ▸ jg_eq2
          refine jx_inc (pc' := 53) (l' := jSto1 L40 1 (.int (i32 ((n + (1)))))) (x := n) rfl gL40_1 (by decide) rfl rfl ?_
          obtain ⟨L41, eL41⟩ : ∃ q, q = jSto1 L40 1 (.int (i32 ((n + (1))))) := ⟨_, rfl⟩
          rw [← eL41]
          have gL41_0 : jGet L41 0 = some (.ref 66) := eL41 ▸ jg_ne (by decide) gL40_0 rfl
          have gL41_2 : jGet L41 2 = some (.long (y39)) := eL41 ▸ jg_nel (by decide) gL40_2 (by decide)
          have gL41_1 : jGet L41 1 = some (.int (i32 ((n + (1))))) := eL41 ▸ jg_eq
          refine jx_ld (pc' := 54) (l' := L41) (st' := [.ref 66]) rfl (jl_aloadn gL41_0) ?_
          refine jx_ar (pc' := 55) (st' := [.ref 66, .ref 66]) rfl rfl rfl rfl ?_
          refine jr_get (pc' := 58) (i := 10) (v := .int (i32 (at1))) rfl rfl (by decide) (rFv_eq (by decide) (show Gx 10 = at1 from (ex_at1))) rfl ?_
          refine jx_ar (pc' := 59) (st' := [.int (i32 (1)), .int (i32 (at1)), .ref 66]) rfl rfl rfl rfl ?_
          refine jx_add (pc' := 60) rfl rfl ?_
          refine jr_put (pc' := 63) (i := 10) (z := (at1 + 1)) rfl rfl (by decide) rfl rfl rfl rfl rfl rfl ?_
          have hW42 : Wk (uG Gx 10 ((at1 + 1))) Ax := Wk_g hWx (show (0 : Int) ≤ (at1 + 1) by omega) (show (at1 + 1) ≤ (3002 : Int) by omega)
          have hF43 := Fr_g (z := (at1 + 1)) (i := 10) hFx (by decide)
          refine jx_go (tg := 4) rfl rfl ?_
          exact ih _ (by omega) L41 (uG Gx 10 ((at1 + 1))) Ax ((n + (1))) ((at1 + 1)) (A 0 ((at1 + 1)).toNat) (y39) rfl gL41_0 gL41_1 gL41_2 hW42 hF43 (rfl) ((congrFun (hFx.2 0 rfl) _)) (by omega) (by omega) (by omega) (by omega)
  exact loop3 _ L2 G A (0) (at0) (tx) (Int64.ofNat 0) rfl gL2_0 gL2_1 gL2_2 hW hF0 ((e_at0)) ((e_tx)) (by omega) (by omega) (by omega) (by omega)
set_option maxRecDepth 20000 in
set_option maxHeartbeats 4000000 in
theorem c_numberToken {X : jX} {dd : Nat} {c0 c1 : jC} {G : Nat → Int} {A : Nat → Nat → Int} {T : jH} {ln le at0 tx : Int} (hd : 2 ≤ dd) (hW : Wk G A) (e_ln : G 9 = ln) (e_le : A 4 (ln).toNat = le) (e_at0 : G 10 = at0) (e_tx : A 0 (at0).toNat = tx) (p_0 : at0 < le) (p_1 : 48 ≤ tx ∧ tx ≤ 57) : wk X dd 264 [.ref 66] (rV c0 c1 G A T) (fun o V' => ∃ (G' : Nat → Int) (A' : Nat → Nat → Int) (at2 : Int) (tk2 : Int), V' = rV c0 c1 G' A' T ∧ o = .inl none ∧ Wk G' A' ∧ Fr [10, 11, 13] [] G A G' A' ∧ G' 10 = at2 ∧ G' 11 = tk2 ∧ (at0 < at2 ∧ at2 ≤ le) ∧ (tk2 = 3 ∨ tk2 = 5)) := by
  obtain ⟨d, rfl⟩ : ∃ d, dd = d + 1 := ⟨dd - 1, by omega⟩
  refine wk_of (e := jm264) rfl (Nat.le_of_ble_eq_true rfl) ?_
  show wj X d jm264 (0, [(0, .ref 66)], [], rV c0 c1 G A T) _
  have hF0 : Fr [10, 11, 13] [] G A G A := Fr_rf
  have b_ln : (0 : Int) ≤ ln ∧ ln ≤ 3000 := e_ln ▸ hW.1 9
  have b_le : (0 : Int) ≤ le ∧ le ≤ 3000 := e_le ▸ hW.2 4 _
  have b_at0 : (0 : Int) ≤ at0 ∧ at0 ≤ 3002 := e_at0 ▸ hW.1 10
  have b_tx : (0 : Int) ≤ tx ∧ tx ≤ 126 := e_tx ▸ hW.2 0 _
  refine jx_ar (pc' := 1) (st' := [.int (i32 (0))]) rfl rfl rfl rfl ?_
  refine jx_ld (pc' := 2) (l' := jSto1 [(0, .ref 66)] 1 (.int (i32 (0)))) (st' := []) rfl rfl ?_
  obtain ⟨L1, eL1⟩ : ∃ q, q = jSto1 [(0, .ref 66)] 1 (.int (i32 (0))) := ⟨_, rfl⟩
  rw [← eL1]
  have gL1_0 : jGet L1 0 = some (.ref 66) := eL1 ▸ jg_ne (by decide) (rfl : jGet [(0, .ref 66)] 0 = some (.ref 66)) rfl
  have gL1_1 : jGet L1 1 = some (.int (i32 (0))) := eL1 ▸ jg_eq
  refine jx_ar (pc' := 3) (st' := [.long (Int64.ofNat 0)]) rfl rfl rfl rfl ?_
  refine jx_ld (pc' := 4) (l' := jSto2 L1 2 (.long (Int64.ofNat 0))) (st' := []) rfl rfl ?_
  obtain ⟨L2, eL2⟩ : ∃ q, q = jSto2 L1 2 (.long (Int64.ofNat 0)) := ⟨_, rfl⟩
  rw [← eL2]
  have gL2_0 : jGet L2 0 = some (.ref 66) := eL2 ▸ jg_ne2 (by decide) (by decide) gL1_0 (.inl rfl)
  have gL2_1 : jGet L2 1 = some (.int (i32 (0))) := eL2 ▸ jg_ne2 (by decide) (by decide) gL1_1 (.inl rfl)
  have gL2_2 : jGet L2 2 = some (.long (Int64.ofNat 0)) := eL2 ▸ jg_eq2
  have loop3 : ∀ (m : Nat) (L : jL) (Gx : Nat → Int) (Ax : Nat → Nat → Int) (n at1 cur : Int) (v : Int64), (le - at1).toNat = m → jGet L 0 = some (.ref 66) → jGet L 1 = some (.int (i32 n)) → jGet L 2 = some (.long v) → Wk Gx Ax → Fr [10, 11, 13] [] G A Gx Ax → Gx 10 = at1 → Ax 0 (at1).toNat = cur → ((-2147483648 : Int) ≤ n ∧ n ≤ 2147483647) → (at0 ≤ at1 ∧ at1 ≤ le) → (at1 = at0 → cur = tx) → (n = at1 - at0) → wj X d jm264 (4, L, [], rV c0 c1 Gx Ax T) (fun o V' => ∃ (G' : Nat → Int) (A' : Nat → Nat → Int) (at2 : Int) (tk2 : Int), V' = rV c0 c1 G' A' T ∧ o = .inl none ∧ Wk G' A' ∧ Fr [10, 11, 13] [] G A G' A' ∧ G' 10 = at2 ∧ G' 11 = tk2 ∧ (at0 < at2 ∧ at2 ≤ le) ∧ (tk2 = 3 ∨ tk2 = 5)) := by
    intro m
    induction m using Nat.strongRecOn with
    | ind m ih =>
      intro L Gx Ax n at1 cur v hm gL_0 gL_1 gL_2 hWx hFx ex_at1 ex_cur rx_n iv_0 iv_1 iv_2
      have b_at1 : (0 : Int) ≤ at1 ∧ at1 ≤ 3002 := ex_at1 ▸ hWx.1 10
      refine jx_ld (pc' := 5) (l' := L) (st' := [.ref 66]) rfl (jl_aloadn gL_0) ?_
      refine jx_ld (pc' := 6) (l' := L) (st' := [.ref 66, .ref 66]) rfl (jl_aloadn gL_0) ?_
      refine jr_get (pc' := 9) (i := 10) (v := .int (i32 (at1))) rfl rfl (by decide) (rFv_eq (by decide) (show Gx 10 = at1 from (ex_at1))) rfl ?_
      refine jx_vr (pc' := 12) (as := [.int (i32 (at1))]) (st := []) rfl rfl rfl rfl ⟨rfl, rfl, Nat.le_of_ble_eq_true rfl⟩ rfl rfl (c_sign (dd := d) (hd := by omega) (hW := hWx) (k := at1) (ln := ln) (e_ln := show Gx 9 = ln from ((hFx.1 9 rfl).trans (e_ln))) (le := le) (e_le := show Ax 4 (ln).toNat = le from (congrFun (hFx.2 4 rfl) _).trans (e_le)) (tx := cur) (e_tx := show Ax 0 (at1).toNat = cur from (ex_cur))  (h_k := by omega)  (p_0 := by omega)) (fun o V' hq => ?_)
      obtain ⟨r4, rfl, rfl, b5, p6⟩ := hq
      refine .inr ⟨_, rfl, ?_⟩
      refine jx_st (pc' := 15) (as := [.int (i32 (r4))]) (st := []) rfl rfl ⟨rfl, Nat.le_of_ble_eq_true rfl⟩ rfl rfl rfl (c_isDigit (dd := d) (hd := by omega) (v := r4)   (h_v := by omega)  ) (fun o V' hq => ?_)
      obtain ⟨r7, rfl, rfl, b8, p9⟩ := hq
      refine .inr ⟨_, rfl, ?_⟩
      refine jx_if_eq (pc' := 18) (tg := 64) rfl rfl rfl (by omega) (by omega) (fun h10 => ?_) (fun h10 => ?_)
      · have _q := h10
        refine jx_ld (pc' := 65) (l' := L) (st' := [.int (i32 (n))]) rfl (jl_iloadn gL_1) ?_
        refine jx_ar (pc' := 67) (st' := [.int (i32 (10)), .int (i32 (n))]) rfl rfl rfl rfl ?_
        refine jx_icmp_gt (pc' := 70) (tg := 82) rfl rfl rfl (by omega) (by omega) (by omega) (by omega) (fun h11 => ?_) (fun h11 => ?_)
        · have _q := h11
          refine jx_ar (pc' := 83) (st' := [.int (i32 (0))]) rfl rfl rfl rfl ?_
          refine jx_ld (pc' := 85) (l' := jSto1 L 4 (.int (i32 (0)))) (st' := []) rfl rfl ?_
          obtain ⟨L12, eL12⟩ : ∃ q, q = jSto1 L 4 (.int (i32 (0))) := ⟨_, rfl⟩
          rw [← eL12]
          have gL12_0 : jGet L12 0 = some (.ref 66) := eL12 ▸ jg_ne (by decide) gL_0 rfl
          have gL12_1 : jGet L12 1 = some (.int (i32 (n))) := eL12 ▸ jg_ne (by decide) gL_1 rfl
          have gL12_2 : jGet L12 2 = some (.long (v)) := eL12 ▸ jg_nel (by decide) gL_2 (by decide)
          have gL12_4 : jGet L12 4 = some (.int (i32 (0))) := eL12 ▸ jg_eq
          refine jx_ld (pc' := 86) (l' := L12) (st' := [.ref 66]) rfl (jl_aloadn gL12_0) ?_
          refine jx_ld (pc' := 88) (l' := L12) (st' := [.int (i32 (0)), .ref 66]) rfl (jl_iload gL12_4) ?_
          refine jx_if_eq (pc' := 91) (tg := 95) rfl rfl rfl (by omega) (by omega) (fun h13 => ?_) (fun h13 => ?_)
          · have _q := h13
            refine jx_ar (pc' := 96) (st' := [.int (i32 (5)), .ref 66]) rfl rfl rfl rfl ?_
            refine jr_put (pc' := 99) (i := 11) (z := 5) rfl rfl (by decide) rfl rfl rfl rfl rfl rfl ?_
            have hW14 : Wk (uG Gx 11 (5)) Ax := Wk_g hWx (show (0 : Int) ≤ 5 by omega) (show 5 ≤ (5 : Int) by omega)
            have hF15 := Fr_g (z := 5) (i := 11) hFx (by decide)
            refine jx_ld (pc' := 100) (l' := L12) (st' := [.ref 66]) rfl (jl_aloadn gL12_0) ?_
            refine jx_ld (pc' := 102) (l' := L12) (st' := [.int (i32 (0)), .ref 66]) rfl (jl_iload gL12_4) ?_
            refine jx_if_eq (pc' := 105) (tg := 110) rfl rfl rfl (by omega) (by omega) (fun h16 => ?_) (fun h16 => ?_)
            · have _q := h16
              refine jx_ar (pc' := 111) (st' := [.int (i32 (0)), .ref 66]) rfl rfl rfl rfl ?_
              refine jr_put (pc' := 114) (i := 13) (z := 0) rfl rfl (by decide) rfl rfl rfl rfl rfl rfl ?_
              have hW17 : Wk (uG (uG Gx 11 (5)) 13 (0)) Ax := Wk_g hW14 (show (-2147483648 : Int) ≤ 0 by omega) (show 0 ≤ (2147483647 : Int) by omega)
              have hF18 := Fr_g (z := 0) (i := 13) hF15 (by decide)
              refine jx_rt (v := none) rfl rfl rfl rfl rfl rfl ?_
              exact ⟨_, _, at1, 5, rfl, rfl, hW17, hF18, (ex_at1), rfl, by omega⟩
            · have _q := h16
              exact absurd h16 (by omega)
          · have _q := h13
            exact absurd h13 (by omega)
        · have _q := h11
          refine jx_ld (pc' := 71) (l' := L) (st' := [.long (v)]) rfl (jl_lloadn gL_2) ?_
          refine jx_hp (pc' := 74) (st' := [.long (2147483647), .long (v)]) rfl rfl rfl rfl rfl rfl ?_
          refine jx_lcmp (pc' := 75) rfl rfl (fun r19 hr19 => ?_)
          refine jx_if_gt (pc' := 78) (tg := 82) rfl rfl rfl (by omega) (by omega) (fun h20 => ?_) (fun h20 => ?_)
          · have _q := h20
            refine jx_ar (pc' := 83) (st' := [.int (i32 (0))]) rfl rfl rfl rfl ?_
            refine jx_ld (pc' := 85) (l' := jSto1 L 4 (.int (i32 (0)))) (st' := []) rfl rfl ?_
            obtain ⟨L21, eL21⟩ : ∃ q, q = jSto1 L 4 (.int (i32 (0))) := ⟨_, rfl⟩
            rw [← eL21]
            have gL21_0 : jGet L21 0 = some (.ref 66) := eL21 ▸ jg_ne (by decide) gL_0 rfl
            have gL21_1 : jGet L21 1 = some (.int (i32 (n))) := eL21 ▸ jg_ne (by decide) gL_1 rfl
            have gL21_2 : jGet L21 2 = some (.long (v)) := eL21 ▸ jg_nel (by decide) gL_2 (by decide)
            have gL21_4 : jGet L21 4 = some (.int (i32 (0))) := eL21 ▸ jg_eq
            refine jx_ld (pc' := 86) (l' := L21) (st' := [.ref 66]) rfl (jl_aloadn gL21_0) ?_
            refine jx_ld (pc' := 88) (l' := L21) (st' := [.int (i32 (0)), .ref 66]) rfl (jl_iload gL21_4) ?_
            refine jx_if_eq (pc' := 91) (tg := 95) rfl rfl rfl (by omega) (by omega) (fun h22 => ?_) (fun h22 => ?_)
            · have _q := h22
              refine jx_ar (pc' := 96) (st' := [.int (i32 (5)), .ref 66]) rfl rfl rfl rfl ?_
              refine jr_put (pc' := 99) (i := 11) (z := 5) rfl rfl (by decide) rfl rfl rfl rfl rfl rfl ?_
              have hW23 : Wk (uG Gx 11 (5)) Ax := Wk_g hWx (show (0 : Int) ≤ 5 by omega) (show 5 ≤ (5 : Int) by omega)
              have hF24 := Fr_g (z := 5) (i := 11) hFx (by decide)
              refine jx_ld (pc' := 100) (l' := L21) (st' := [.ref 66]) rfl (jl_aloadn gL21_0) ?_
              refine jx_ld (pc' := 102) (l' := L21) (st' := [.int (i32 (0)), .ref 66]) rfl (jl_iload gL21_4) ?_
              refine jx_if_eq (pc' := 105) (tg := 110) rfl rfl rfl (by omega) (by omega) (fun h25 => ?_) (fun h25 => ?_)
              · have _q := h25
                refine jx_ar (pc' := 111) (st' := [.int (i32 (0)), .ref 66]) rfl rfl rfl rfl ?_
                refine jr_put (pc' := 114) (i := 13) (z := 0) rfl rfl (by decide) rfl rfl rfl rfl rfl rfl ?_
                have hW26 : Wk (uG (uG Gx 11 (5)) 13 (0)) Ax := Wk_g hW23 (show (-2147483648 : Int) ≤ 0 by omega) (show 0 ≤ (2147483647 : Int) by omega)
                have hF27 := Fr_g (z := 0) (i := 13) hF24 (by decide)
                refine jx_rt (v := none) rfl rfl rfl rfl rfl rfl ?_
                exact ⟨_, _, at1, 5, rfl, rfl, hW26, hF27, (ex_at1), rfl, by omega⟩
              · have _q := h25
                exact absurd h25 (by omega)
            · have _q := h22
              exact absurd h22 (by omega)
          · have _q := h20
            refine jx_ar (pc' := 79) (st' := [.int (i32 (1))]) rfl rfl rfl rfl ?_
            refine jx_go (tg := 83) rfl rfl ?_
            refine jx_ld (pc' := 85) (l' := jSto1 L 4 (.int (i32 (1)))) (st' := []) rfl rfl ?_
            obtain ⟨L28, eL28⟩ : ∃ q, q = jSto1 L 4 (.int (i32 (1))) := ⟨_, rfl⟩
            rw [← eL28]
            have gL28_0 : jGet L28 0 = some (.ref 66) := eL28 ▸ jg_ne (by decide) gL_0 rfl
            have gL28_1 : jGet L28 1 = some (.int (i32 (n))) := eL28 ▸ jg_ne (by decide) gL_1 rfl
            have gL28_2 : jGet L28 2 = some (.long (v)) := eL28 ▸ jg_nel (by decide) gL_2 (by decide)
            have gL28_4 : jGet L28 4 = some (.int (i32 (1))) := eL28 ▸ jg_eq
            refine jx_ld (pc' := 86) (l' := L28) (st' := [.ref 66]) rfl (jl_aloadn gL28_0) ?_
            refine jx_ld (pc' := 88) (l' := L28) (st' := [.int (i32 (1)), .ref 66]) rfl (jl_iload gL28_4) ?_
            refine jx_if_eq (pc' := 91) (tg := 95) rfl rfl rfl (by omega) (by omega) (fun h29 => ?_) (fun h29 => ?_)
            · have _q := h29
              exact absurd h29 (by omega)
            · have _q := h29
              refine jx_ar (pc' := 92) (st' := [.int (i32 (3)), .ref 66]) rfl rfl rfl rfl ?_
              refine jx_go (tg := 96) rfl rfl ?_
              refine jr_put (pc' := 99) (i := 11) (z := 3) rfl rfl (by decide) rfl rfl rfl rfl rfl rfl ?_
              have hW30 : Wk (uG Gx 11 (3)) Ax := Wk_g hWx (show (0 : Int) ≤ 3 by omega) (show 3 ≤ (5 : Int) by omega)
              have hF31 := Fr_g (z := 3) (i := 11) hFx (by decide)
              refine jx_ld (pc' := 100) (l' := L28) (st' := [.ref 66]) rfl (jl_aloadn gL28_0) ?_
              refine jx_ld (pc' := 102) (l' := L28) (st' := [.int (i32 (1)), .ref 66]) rfl (jl_iload gL28_4) ?_
              refine jx_if_eq (pc' := 105) (tg := 110) rfl rfl rfl (by omega) (by omega) (fun h32 => ?_) (fun h32 => ?_)
              · have _q := h32
                exact absurd h32 (by omega)
              · have _q := h32
                refine jx_ld (pc' := 106) (l' := L28) (st' := [.long (v), .ref 66]) rfl (jl_lloadn gL28_2) ?_
                refine jx_l2i (pc' := 107) rfl rfl (fun r33 hr33 => ?_)
                refine jx_go (tg := 111) rfl rfl ?_
                refine jr_put (pc' := 114) (i := 13) (z := r33) rfl rfl (by decide) rfl rfl rfl rfl rfl rfl ?_
                have hW34 : Wk (uG (uG Gx 11 (3)) 13 (r33)) Ax := Wk_g hW30 (show (-2147483648 : Int) ≤ r33 by omega) (show r33 ≤ (2147483647 : Int) by omega)
                have hF35 := Fr_g (z := r33) (i := 13) hF31 (by decide)
                refine jx_rt (v := none) rfl rfl rfl rfl rfl rfl ?_
                exact ⟨_, _, at1, 3, rfl, rfl, hW34, hF35, (ex_at1), rfl, by omega⟩
      · have _q := h10
        refine jx_ld (pc' := 19) (l' := L) (st' := [.int (i32 (n))]) rfl (jl_iloadn gL_1) ?_
        refine jx_ar (pc' := 21) (st' := [.int (i32 (10)), .int (i32 (n))]) rfl rfl rfl rfl ?_
        refine jx_icmp_ge (pc' := 24) (tg := 46) rfl rfl rfl (by omega) (by omega) (by omega) (by omega) (fun h36 => ?_) (fun h36 => ?_)
        · have _q := h36
          refine jx_ld (pc' := 47) (l' := L) (st' := [.long (v)]) rfl (jl_lloadn gL_2) ?_
          refine jx_ld (pc' := 48) (l' := jSto2 L 2 (.long (v))) (st' := []) rfl rfl ?_
          obtain ⟨L37, eL37⟩ : ∃ q, q = jSto2 L 2 (.long (v)) := ⟨_, rfl⟩
          rw [← eL37]
          have gL37_0 : jGet L37 0 = some (.ref 66) := eL37 ▸ jg_ne2 (by decide) (by decide) gL_0 (.inl rfl)
          have gL37_1 : jGet L37 1 = some (.int (i32 (n))) := eL37 ▸ jg_ne2 (by decide) (by decide) gL_1 (.inl rfl)
          have gL37_2 : jGet L37 2 = some (.long (v)) := eL37 ▸ jg_eq2
          refine jx_inc (pc' := 51) (l' := jSto1 L37 1 (.int (i32 ((n + (1)))))) (x := n) rfl gL37_1 (by decide) rfl rfl ?_
          obtain ⟨L38, eL38⟩ : ∃ q, q = jSto1 L37 1 (.int (i32 ((n + (1))))) := ⟨_, rfl⟩
          rw [← eL38]
          have gL38_0 : jGet L38 0 = some (.ref 66) := eL38 ▸ jg_ne (by decide) gL37_0 rfl
          have gL38_2 : jGet L38 2 = some (.long (v)) := eL38 ▸ jg_nel (by decide) gL37_2 (by decide)
          have gL38_1 : jGet L38 1 = some (.int (i32 ((n + (1))))) := eL38 ▸ jg_eq
          refine jx_ld (pc' := 52) (l' := L38) (st' := [.ref 66]) rfl (jl_aloadn gL38_0) ?_
          refine jx_ar (pc' := 53) (st' := [.ref 66, .ref 66]) rfl rfl rfl rfl ?_
          refine jr_get (pc' := 56) (i := 10) (v := .int (i32 (at1))) rfl rfl (by decide) (rFv_eq (by decide) (show Gx 10 = at1 from (ex_at1))) rfl ?_
          refine jx_ar (pc' := 57) (st' := [.int (i32 (1)), .int (i32 (at1)), .ref 66]) rfl rfl rfl rfl ?_
          refine jx_add (pc' := 58) rfl rfl ?_
          refine jr_put (pc' := 61) (i := 10) (z := (at1 + 1)) rfl rfl (by decide) rfl rfl rfl rfl rfl rfl ?_
          have hW39 : Wk (uG Gx 10 ((at1 + 1))) Ax := Wk_g hWx (show (0 : Int) ≤ (at1 + 1) by omega) (show (at1 + 1) ≤ (3002 : Int) by omega)
          have hF40 := Fr_g (z := (at1 + 1)) (i := 10) hFx (by decide)
          refine jx_go (tg := 4) rfl rfl ?_
          exact ih _ (by omega) L38 (uG Gx 10 ((at1 + 1))) Ax ((n + (1))) ((at1 + 1)) (A 0 ((at1 + 1)).toNat) (v) rfl gL38_0 gL38_1 gL38_2 hW39 hF40 (rfl) ((congrFun (hFx.2 0 rfl) _)) (by omega) (by omega) (by omega) (by omega)
        · have _q := h36
          refine jx_hp (pc' := 27) (st' := [.long (10)]) rfl rfl rfl rfl rfl rfl ?_
          refine jx_ld (pc' := 28) (l' := L) (st' := [.long (v), .long (10)]) rfl (jl_lloadn gL_2) ?_
          refine jx_ar (pc' := 29) (st' := .long ((10 : Int64) * (v)) :: []) rfl rfl rfl rfl ?_
          obtain ⟨y41, ey41⟩ : ∃ q : Int64, q = (10 : Int64) * (v) := ⟨_, rfl⟩
          rw [← ey41]
          refine jx_ld (pc' := 30) (l' := L) (st' := [.ref 66, .long (y41)]) rfl (jl_aloadn gL_0) ?_
          refine jx_ld (pc' := 31) (l' := L) (st' := [.ref 66, .ref 66, .long (y41)]) rfl (jl_aloadn gL_0) ?_
          refine jr_get (pc' := 34) (i := 10) (v := .int (i32 (at1))) rfl rfl (by decide) (rFv_eq (by decide) (show Gx 10 = at1 from (ex_at1))) rfl ?_
          refine jx_vr (pc' := 37) (as := [.int (i32 (at1))]) (st := [.long (y41)]) rfl rfl rfl rfl ⟨rfl, rfl, Nat.le_of_ble_eq_true rfl⟩ rfl rfl (c_sign (dd := d) (hd := by omega) (hW := hWx) (k := at1) (ln := ln) (e_ln := show Gx 9 = ln from ((hFx.1 9 rfl).trans (e_ln))) (le := le) (e_le := show Ax 4 (ln).toNat = le from (congrFun (hFx.2 4 rfl) _).trans (e_le)) (tx := cur) (e_tx := show Ax 0 (at1).toNat = cur from (ex_cur))  (h_k := by omega)  (p_0 := by omega)) (fun o V' hq => ?_)
          obtain ⟨r42, rfl, rfl, b43, p44⟩ := hq
          refine .inr ⟨_, rfl, ?_⟩
          refine jx_ar (pc' := 38) (st' := .long ((i32 (r42)).toInt64) :: [.long (y41)]) rfl rfl rfl rfl ?_
          obtain ⟨y45, ey45⟩ : ∃ q : Int64, q = (i32 (r42)).toInt64 := ⟨_, rfl⟩
          rw [← ey45]
          refine jx_ar (pc' := 39) (st' := .long ((y41 : Int64) + (y45)) :: []) rfl rfl rfl rfl ?_
          obtain ⟨y46, ey46⟩ : ∃ q : Int64, q = (y41 : Int64) + (y45) := ⟨_, rfl⟩
          rw [← ey46]
          refine jx_hp (pc' := 42) (st' := [.long (48), .long (y46)]) rfl rfl rfl rfl rfl rfl ?_
          refine jx_ar (pc' := 43) (st' := .long ((y46 : Int64) - (48)) :: []) rfl rfl rfl rfl ?_
          obtain ⟨y47, ey47⟩ : ∃ q : Int64, q = (y46 : Int64) - (48) := ⟨_, rfl⟩
          rw [← ey47]
          refine jx_go (tg := 47) rfl rfl ?_
          refine jx_ld (pc' := 48) (l' := jSto2 L 2 (.long (y47))) (st' := []) rfl rfl ?_
          obtain ⟨L48, eL48⟩ : ∃ q, q = jSto2 L 2 (.long (y47)) := ⟨_, rfl⟩
          rw [← eL48]
          have gL48_0 : jGet L48 0 = some (.ref 66) := eL48 ▸ jg_ne2 (by decide) (by decide) gL_0 (.inl rfl)
          have gL48_1 : jGet L48 1 = some (.int (i32 (n))) := eL48 ▸ jg_ne2 (by decide) (by decide) gL_1 (.inl rfl)
          have gL48_2 : jGet L48 2 = some (.long (y47)) := eL48 ▸ jg_eq2
          refine jx_inc (pc' := 51) (l' := jSto1 L48 1 (.int (i32 ((n + (1)))))) (x := n) rfl gL48_1 (by decide) rfl rfl ?_
          obtain ⟨L49, eL49⟩ : ∃ q, q = jSto1 L48 1 (.int (i32 ((n + (1))))) := ⟨_, rfl⟩
          rw [← eL49]
          have gL49_0 : jGet L49 0 = some (.ref 66) := eL49 ▸ jg_ne (by decide) gL48_0 rfl
          have gL49_2 : jGet L49 2 = some (.long (y47)) := eL49 ▸ jg_nel (by decide) gL48_2 (by decide)
          have gL49_1 : jGet L49 1 = some (.int (i32 ((n + (1))))) := eL49 ▸ jg_eq
          refine jx_ld (pc' := 52) (l' := L49) (st' := [.ref 66]) rfl (jl_aloadn gL49_0) ?_
          refine jx_ar (pc' := 53) (st' := [.ref 66, .ref 66]) rfl rfl rfl rfl ?_
          refine jr_get (pc' := 56) (i := 10) (v := .int (i32 (at1))) rfl rfl (by decide) (rFv_eq (by decide) (show Gx 10 = at1 from (ex_at1))) rfl ?_
          refine jx_ar (pc' := 57) (st' := [.int (i32 (1)), .int (i32 (at1)), .ref 66]) rfl rfl rfl rfl ?_
          refine jx_add (pc' := 58) rfl rfl ?_
          refine jr_put (pc' := 61) (i := 10) (z := (at1 + 1)) rfl rfl (by decide) rfl rfl rfl rfl rfl rfl ?_
          have hW50 : Wk (uG Gx 10 ((at1 + 1))) Ax := Wk_g hWx (show (0 : Int) ≤ (at1 + 1) by omega) (show (at1 + 1) ≤ (3002 : Int) by omega)
          have hF51 := Fr_g (z := (at1 + 1)) (i := 10) hFx (by decide)
          refine jx_go (tg := 4) rfl rfl ?_
          exact ih _ (by omega) L49 (uG Gx 10 ((at1 + 1))) Ax ((n + (1))) ((at1 + 1)) (A 0 ((at1 + 1)).toNat) (y47) rfl gL49_0 gL49_1 gL49_2 hW50 hF51 (rfl) ((congrFun (hFx.2 0 rfl) _)) (by omega) (by omega) (by omega) (by omega)
  exact loop3 _ L2 G A (0) (at0) (tx) (Int64.ofNat 0) rfl gL2_0 gL2_1 gL2_2 hW hF0 ((e_at0)) ((e_tx)) (by omega) (by omega) (by omega) (by omega)
set_option maxRecDepth 20000 in
set_option maxHeartbeats 4000000 in
theorem c_signToken {X : jX} {dd : Nat} {c0 c1 : jC} {G : Nat → Int} {A : Nat → Nat → Int} {T : jH} {c : Int} {ln le at0 : Int} (hd : 2 ≤ dd) (hW : Wk G A) (e_ln : G 9 = ln) (e_le : A 4 (ln).toNat = le) (e_at0 : G 10 = at0) (h_c : (-2147483648 : Int) ≤ c ∧ c ≤ 2147483647) (p_0 : at0 < le) (p_1 : 0 ≤ c ∧ c ≤ 126) : wk X dd 266 [.ref 66, .int (i32 c)] (rV c0 c1 G A T) (fun o V' => ∃ (G' : Nat → Int) (A' : Nat → Nat → Int) (at2 : Int) (tk2 : Int), V' = rV c0 c1 G' A' T ∧ o = .inl none ∧ Wk G' A' ∧ Fr [10, 11, 13] [] G A G' A' ∧ G' 10 = at2 ∧ G' 11 = tk2 ∧ (at0 < at2 ∧ at2 ≤ le) ∧ (tk2 = 4 ∨ tk2 = 5)) := by
  obtain ⟨d, rfl⟩ : ∃ d, dd = d + 1 := ⟨dd - 1, by omega⟩
  refine wk_of (e := jm266) rfl (Nat.le_of_ble_eq_true rfl) ?_
  show wj X d jm266 (0, [(0, .ref 66), (1, .int (i32 (c)))], [], rV c0 c1 G A T) _
  have hF0 : Fr [10, 11, 13] [] G A G A := Fr_rf
  have b_ln : (0 : Int) ≤ ln ∧ ln ≤ 3000 := e_ln ▸ hW.1 9
  have b_le : (0 : Int) ≤ le ∧ le ≤ 3000 := e_le ▸ hW.2 4 _
  have b_at0 : (0 : Int) ≤ at0 ∧ at0 ≤ 3002 := e_at0 ▸ hW.1 10
  refine jx_ld (pc' := 1) (l' := [(0, .ref 66), (1, .int (i32 (c)))]) (st' := [.int (i32 (c))]) rfl (jl_iloadn rfl) ?_
  refine jx_ld (pc' := 2) (l' := [(0, .ref 66), (1, .int (i32 (c)))]) (st' := [.ref 66, .int (i32 (c))]) rfl (jl_aloadn rfl) ?_
  refine jx_ld (pc' := 3) (l' := [(0, .ref 66), (1, .int (i32 (c)))]) (st' := [.ref 66, .ref 66, .int (i32 (c))]) rfl (jl_aloadn rfl) ?_
  refine jr_get (pc' := 6) (i := 10) (v := .int (i32 (at0))) rfl rfl (by decide) (rFv_eq (by decide) (show G 10 = at0 from (e_at0))) rfl ?_
  refine jx_ar (pc' := 7) (st' := [.int (i32 (1)), .int (i32 (at0)), .ref 66, .int (i32 (c))]) rfl rfl rfl rfl ?_
  refine jx_add (pc' := 8) rfl rfl ?_
  have b1 : (0 : Int) ≤ A 0 ((at0 + 1)).toNat ∧ A 0 ((at0 + 1)).toNat ≤ 126 := hW.2 0 _
  refine jx_vr (pc' := 11) (as := [.int (i32 ((at0 + 1)))]) (st := [.int (i32 (c))]) rfl rfl rfl rfl ⟨rfl, rfl, Nat.le_of_ble_eq_true rfl⟩ rfl rfl (c_sign (dd := d) (hd := by omega) (hW := hW) (k := (at0 + 1)) (ln := ln) (e_ln := show G 9 = ln from (e_ln)) (le := le) (e_le := show A 4 (ln).toNat = le from (e_le)) (tx := A 0 ((at0 + 1)).toNat) (e_tx := show A 0 ((at0 + 1)).toNat = A 0 ((at0 + 1)).toNat from rfl)  (h_k := by omega)  (p_0 := by omega)) (fun o V' hq => ?_)
  obtain ⟨r2, rfl, rfl, b3, p4⟩ := hq
  refine .inr ⟨_, rfl, ?_⟩
  refine jx_st (pc' := 14) (as := [.int (i32 (c)), .int (i32 (r2))]) (st := []) rfl rfl ⟨rfl, Nat.le_of_ble_eq_true rfl⟩ rfl rfl rfl (c_pair (dd := d) (hd := by omega) (c := c) (e := r2)   (h_c := by omega) (h_e := by omega)  ) (fun o V' hq => ?_)
  obtain ⟨r5, rfl, rfl, b6, p7⟩ := hq
  refine .inr ⟨_, rfl, ?_⟩
  refine jx_ld (pc' := 15) (l' := jSto1 [(0, .ref 66), (1, .int (i32 (c)))] 2 (.int (i32 (r5)))) (st' := []) rfl rfl ?_
  obtain ⟨L8, eL8⟩ : ∃ q, q = jSto1 [(0, .ref 66), (1, .int (i32 (c)))] 2 (.int (i32 (r5))) := ⟨_, rfl⟩
  rw [← eL8]
  have gL8_0 : jGet L8 0 = some (.ref 66) := eL8 ▸ jg_ne (by decide) (rfl : jGet [(0, .ref 66), (1, .int (i32 (c)))] 0 = some (.ref 66)) rfl
  have gL8_1 : jGet L8 1 = some (.int (i32 (c))) := eL8 ▸ jg_ne (by decide) (rfl : jGet [(0, .ref 66), (1, .int (i32 (c)))] 1 = some (.int (i32 (c)))) rfl
  have gL8_2 : jGet L8 2 = some (.int (i32 (r5))) := eL8 ▸ jg_eq
  refine jx_hp (pc' := 18) (st' := [.ref 30]) rfl rfl rfl rfl rfl rfl ?_
  refine jx_ld (pc' := 19) (l' := L8) (st' := [.int (i32 (c)), .ref 30]) rfl (jl_iloadn gL8_1) ?_
  refine jx_si (pc' := 22) rfl rfl rfl ⟨Nat.le_of_ble_eq_true rfl, (by decide)⟩ (by omega) (by omega) rfl (fun r9 hr9 => ?_)
  refine jx_if_ge (pc' := 25) (tg := 31) rfl rfl rfl (by omega) (by omega) (fun h10 => ?_) (fun h10 => ?_)
  · have _q := h10
    refine jx_ar (pc' := 32) (st' := [.int (i32 (1))]) rfl rfl rfl rfl ?_
    refine jx_go (tg := 36) rfl rfl ?_
    refine jx_ld (pc' := 37) (l' := jSto1 L8 3 (.int (i32 (1)))) (st' := []) rfl rfl ?_
    obtain ⟨L11, eL11⟩ : ∃ q, q = jSto1 L8 3 (.int (i32 (1))) := ⟨_, rfl⟩
    rw [← eL11]
    have gL11_0 : jGet L11 0 = some (.ref 66) := eL11 ▸ jg_ne (by decide) gL8_0 rfl
    have gL11_1 : jGet L11 1 = some (.int (i32 (c))) := eL11 ▸ jg_ne (by decide) gL8_1 rfl
    have gL11_2 : jGet L11 2 = some (.int (i32 (r5))) := eL11 ▸ jg_ne (by decide) gL8_2 rfl
    have gL11_3 : jGet L11 3 = some (.int (i32 (1))) := eL11 ▸ jg_eq
    refine jx_ld (pc' := 38) (l' := L11) (st' := [.ref 66]) rfl (jl_aloadn gL11_0) ?_
    refine jx_ld (pc' := 39) (l' := L11) (st' := [.int (i32 (r5)), .ref 66]) rfl (jl_iloadn gL11_2) ?_
    refine jx_if_gt (pc' := 42) (tg := 46) rfl rfl rfl (by omega) (by omega) (fun h12 => ?_) (fun h12 => ?_)
    · have _q := h12
      refine jx_ar (pc' := 47) (st' := [.int (i32 (4)), .ref 66]) rfl rfl rfl rfl ?_
      refine jx_go (tg := 51) rfl rfl ?_
      refine jr_put (pc' := 54) (i := 11) (z := 4) rfl rfl (by decide) rfl rfl rfl rfl rfl rfl ?_
      have hW13 : Wk (uG G 11 (4)) A := Wk_g hW (show (0 : Int) ≤ 4 by omega) (show 4 ≤ (5 : Int) by omega)
      have hF14 := Fr_g (z := 4) (i := 11) hF0 (by decide)
      refine jx_ld (pc' := 55) (l' := L11) (st' := [.ref 66]) rfl (jl_aloadn gL11_0) ?_
      refine jx_ld (pc' := 56) (l' := L11) (st' := [.int (i32 (r5)), .ref 66]) rfl (jl_iloadn gL11_2) ?_
      refine jx_if_le (pc' := 59) (tg := 63) rfl rfl rfl (by omega) (by omega) (fun h15 => ?_) (fun h15 => ?_)
      · have _q := h15
        refine jx_ld (pc' := 64) (l' := L11) (st' := [.int (i32 (c)), .ref 66]) rfl (jl_iloadn gL11_1) ?_
        refine jr_put (pc' := 67) (i := 13) (z := c) rfl rfl (by decide) rfl rfl rfl rfl rfl rfl ?_
        have hW16 : Wk (uG (uG G 11 (4)) 13 (c)) A := Wk_g hW13 (show (-2147483648 : Int) ≤ c by omega) (show c ≤ (2147483647 : Int) by omega)
        have hF17 := Fr_g (z := c) (i := 13) hF14 (by decide)
        refine jx_ld (pc' := 68) (l' := L11) (st' := [.ref 66]) rfl (jl_aloadn gL11_0) ?_
        refine jx_ld (pc' := 69) (l' := L11) (st' := [.int (i32 (r5)), .ref 66]) rfl (jl_iloadn gL11_2) ?_
        refine jx_if_le (pc' := 72) (tg := 81) rfl rfl rfl (by omega) (by omega) (fun h18 => ?_) (fun h18 => ?_)
        · have _q := h18
          refine jx_ld (pc' := 82) (l' := L11) (st' := [.ref 66, .ref 66]) rfl (jl_aloadn gL11_0) ?_
          refine jr_get (pc' := 85) (i := 10) (v := .int (i32 (at0))) rfl rfl (by decide) (rFv_eq (by decide) (show (uG (uG G 11 (4)) 13 (c)) 10 = at0 from (e_at0))) rfl ?_
          refine jx_ar (pc' := 86) (st' := [.int (i32 (1)), .int (i32 (at0)), .ref 66]) rfl rfl rfl rfl ?_
          refine jx_add (pc' := 87) rfl rfl ?_
          refine jr_put (pc' := 90) (i := 10) (z := (at0 + 1)) rfl rfl (by decide) rfl rfl rfl rfl rfl rfl ?_
          have hW19 : Wk (uG (uG (uG G 11 (4)) 13 (c)) 10 ((at0 + 1))) A := Wk_g hW16 (show (0 : Int) ≤ (at0 + 1) by omega) (show (at0 + 1) ≤ (3002 : Int) by omega)
          have hF20 := Fr_g (z := (at0 + 1)) (i := 10) hF17 (by decide)
          refine jx_rt (v := none) rfl rfl rfl rfl rfl rfl ?_
          exact ⟨_, _, (at0 + 1), 4, rfl, rfl, hW19, hF20, rfl, rfl, by omega⟩
        · have _q := h18
          refine jx_ld (pc' := 73) (l' := L11) (st' := [.ref 66, .ref 66]) rfl (jl_aloadn gL11_0) ?_
          refine jr_get (pc' := 76) (i := 10) (v := .int (i32 (at0))) rfl rfl (by decide) (rFv_eq (by decide) (show (uG (uG G 11 (4)) 13 (c)) 10 = at0 from (e_at0))) rfl ?_
          refine jx_ar (pc' := 77) (st' := [.int (i32 (2)), .int (i32 (at0)), .ref 66]) rfl rfl rfl rfl ?_
          refine jx_add (pc' := 78) rfl rfl ?_
          refine jx_go (tg := 87) rfl rfl ?_
          refine jr_put (pc' := 90) (i := 10) (z := (at0 + 2)) rfl rfl (by decide) rfl rfl rfl rfl rfl rfl ?_
          have hW21 : Wk (uG (uG (uG G 11 (4)) 13 (c)) 10 ((at0 + 2))) A := Wk_g hW16 (show (0 : Int) ≤ (at0 + 2) by omega) (show (at0 + 2) ≤ (3002 : Int) by omega)
          have hF22 := Fr_g (z := (at0 + 2)) (i := 10) hF17 (by decide)
          refine jx_rt (v := none) rfl rfl rfl rfl rfl rfl ?_
          exact ⟨_, _, (at0 + 2), 4, rfl, rfl, hW21, hF22, rfl, rfl, by omega⟩
      · have _q := h15
        refine jx_ld (pc' := 60) (l' := L11) (st' := [.int (i32 (r5)), .ref 66]) rfl (jl_iloadn gL11_2) ?_
        refine jx_go (tg := 64) rfl rfl ?_
        refine jr_put (pc' := 67) (i := 13) (z := r5) rfl rfl (by decide) rfl rfl rfl rfl rfl rfl ?_
        have hW23 : Wk (uG (uG G 11 (4)) 13 (r5)) A := Wk_g hW13 (show (-2147483648 : Int) ≤ r5 by omega) (show r5 ≤ (2147483647 : Int) by omega)
        have hF24 := Fr_g (z := r5) (i := 13) hF14 (by decide)
        refine jx_ld (pc' := 68) (l' := L11) (st' := [.ref 66]) rfl (jl_aloadn gL11_0) ?_
        refine jx_ld (pc' := 69) (l' := L11) (st' := [.int (i32 (r5)), .ref 66]) rfl (jl_iloadn gL11_2) ?_
        refine jx_if_le (pc' := 72) (tg := 81) rfl rfl rfl (by omega) (by omega) (fun h25 => ?_) (fun h25 => ?_)
        · have _q := h25
          refine jx_ld (pc' := 82) (l' := L11) (st' := [.ref 66, .ref 66]) rfl (jl_aloadn gL11_0) ?_
          refine jr_get (pc' := 85) (i := 10) (v := .int (i32 (at0))) rfl rfl (by decide) (rFv_eq (by decide) (show (uG (uG G 11 (4)) 13 (r5)) 10 = at0 from (e_at0))) rfl ?_
          refine jx_ar (pc' := 86) (st' := [.int (i32 (1)), .int (i32 (at0)), .ref 66]) rfl rfl rfl rfl ?_
          refine jx_add (pc' := 87) rfl rfl ?_
          refine jr_put (pc' := 90) (i := 10) (z := (at0 + 1)) rfl rfl (by decide) rfl rfl rfl rfl rfl rfl ?_
          have hW26 : Wk (uG (uG (uG G 11 (4)) 13 (r5)) 10 ((at0 + 1))) A := Wk_g hW23 (show (0 : Int) ≤ (at0 + 1) by omega) (show (at0 + 1) ≤ (3002 : Int) by omega)
          have hF27 := Fr_g (z := (at0 + 1)) (i := 10) hF24 (by decide)
          refine jx_rt (v := none) rfl rfl rfl rfl rfl rfl ?_
          exact ⟨_, _, (at0 + 1), 4, rfl, rfl, hW26, hF27, rfl, rfl, by omega⟩
        · have _q := h25
          refine jx_ld (pc' := 73) (l' := L11) (st' := [.ref 66, .ref 66]) rfl (jl_aloadn gL11_0) ?_
          refine jr_get (pc' := 76) (i := 10) (v := .int (i32 (at0))) rfl rfl (by decide) (rFv_eq (by decide) (show (uG (uG G 11 (4)) 13 (r5)) 10 = at0 from (e_at0))) rfl ?_
          refine jx_ar (pc' := 77) (st' := [.int (i32 (2)), .int (i32 (at0)), .ref 66]) rfl rfl rfl rfl ?_
          refine jx_add (pc' := 78) rfl rfl ?_
          refine jx_go (tg := 87) rfl rfl ?_
          refine jr_put (pc' := 90) (i := 10) (z := (at0 + 2)) rfl rfl (by decide) rfl rfl rfl rfl rfl rfl ?_
          have hW28 : Wk (uG (uG (uG G 11 (4)) 13 (r5)) 10 ((at0 + 2))) A := Wk_g hW23 (show (0 : Int) ≤ (at0 + 2) by omega) (show (at0 + 2) ≤ (3002 : Int) by omega)
          have hF29 := Fr_g (z := (at0 + 2)) (i := 10) hF24 (by decide)
          refine jx_rt (v := none) rfl rfl rfl rfl rfl rfl ?_
          exact ⟨_, _, (at0 + 2), 4, rfl, rfl, hW28, hF29, rfl, rfl, by omega⟩
    · have _q := h12
      refine jx_ld (pc' := 43) (l' := L11) (st' := [.int (i32 (1)), .ref 66]) rfl (jl_iloadn gL11_3) ?_
      refine jx_if_eq (pc' := 46) (tg := 50) rfl rfl rfl (by omega) (by omega) (fun h30 => ?_) (fun h30 => ?_)
      · have _q := h30
        exact absurd h30 (by omega)
      · have _q := h30
        refine jx_ar (pc' := 47) (st' := [.int (i32 (4)), .ref 66]) rfl rfl rfl rfl ?_
        refine jx_go (tg := 51) rfl rfl ?_
        refine jr_put (pc' := 54) (i := 11) (z := 4) rfl rfl (by decide) rfl rfl rfl rfl rfl rfl ?_
        have hW31 : Wk (uG G 11 (4)) A := Wk_g hW (show (0 : Int) ≤ 4 by omega) (show 4 ≤ (5 : Int) by omega)
        have hF32 := Fr_g (z := 4) (i := 11) hF0 (by decide)
        refine jx_ld (pc' := 55) (l' := L11) (st' := [.ref 66]) rfl (jl_aloadn gL11_0) ?_
        refine jx_ld (pc' := 56) (l' := L11) (st' := [.int (i32 (r5)), .ref 66]) rfl (jl_iloadn gL11_2) ?_
        refine jx_if_le (pc' := 59) (tg := 63) rfl rfl rfl (by omega) (by omega) (fun h33 => ?_) (fun h33 => ?_)
        · have _q := h33
          refine jx_ld (pc' := 64) (l' := L11) (st' := [.int (i32 (c)), .ref 66]) rfl (jl_iloadn gL11_1) ?_
          refine jr_put (pc' := 67) (i := 13) (z := c) rfl rfl (by decide) rfl rfl rfl rfl rfl rfl ?_
          have hW34 : Wk (uG (uG G 11 (4)) 13 (c)) A := Wk_g hW31 (show (-2147483648 : Int) ≤ c by omega) (show c ≤ (2147483647 : Int) by omega)
          have hF35 := Fr_g (z := c) (i := 13) hF32 (by decide)
          refine jx_ld (pc' := 68) (l' := L11) (st' := [.ref 66]) rfl (jl_aloadn gL11_0) ?_
          refine jx_ld (pc' := 69) (l' := L11) (st' := [.int (i32 (r5)), .ref 66]) rfl (jl_iloadn gL11_2) ?_
          refine jx_if_le (pc' := 72) (tg := 81) rfl rfl rfl (by omega) (by omega) (fun h36 => ?_) (fun h36 => ?_)
          · have _q := h36
            refine jx_ld (pc' := 82) (l' := L11) (st' := [.ref 66, .ref 66]) rfl (jl_aloadn gL11_0) ?_
            refine jr_get (pc' := 85) (i := 10) (v := .int (i32 (at0))) rfl rfl (by decide) (rFv_eq (by decide) (show (uG (uG G 11 (4)) 13 (c)) 10 = at0 from (e_at0))) rfl ?_
            refine jx_ar (pc' := 86) (st' := [.int (i32 (1)), .int (i32 (at0)), .ref 66]) rfl rfl rfl rfl ?_
            refine jx_add (pc' := 87) rfl rfl ?_
            refine jr_put (pc' := 90) (i := 10) (z := (at0 + 1)) rfl rfl (by decide) rfl rfl rfl rfl rfl rfl ?_
            have hW37 : Wk (uG (uG (uG G 11 (4)) 13 (c)) 10 ((at0 + 1))) A := Wk_g hW34 (show (0 : Int) ≤ (at0 + 1) by omega) (show (at0 + 1) ≤ (3002 : Int) by omega)
            have hF38 := Fr_g (z := (at0 + 1)) (i := 10) hF35 (by decide)
            refine jx_rt (v := none) rfl rfl rfl rfl rfl rfl ?_
            exact ⟨_, _, (at0 + 1), 4, rfl, rfl, hW37, hF38, rfl, rfl, by omega⟩
          · have _q := h36
            refine jx_ld (pc' := 73) (l' := L11) (st' := [.ref 66, .ref 66]) rfl (jl_aloadn gL11_0) ?_
            refine jr_get (pc' := 76) (i := 10) (v := .int (i32 (at0))) rfl rfl (by decide) (rFv_eq (by decide) (show (uG (uG G 11 (4)) 13 (c)) 10 = at0 from (e_at0))) rfl ?_
            refine jx_ar (pc' := 77) (st' := [.int (i32 (2)), .int (i32 (at0)), .ref 66]) rfl rfl rfl rfl ?_
            refine jx_add (pc' := 78) rfl rfl ?_
            refine jx_go (tg := 87) rfl rfl ?_
            refine jr_put (pc' := 90) (i := 10) (z := (at0 + 2)) rfl rfl (by decide) rfl rfl rfl rfl rfl rfl ?_
            have hW39 : Wk (uG (uG (uG G 11 (4)) 13 (c)) 10 ((at0 + 2))) A := Wk_g hW34 (show (0 : Int) ≤ (at0 + 2) by omega) (show (at0 + 2) ≤ (3002 : Int) by omega)
            have hF40 := Fr_g (z := (at0 + 2)) (i := 10) hF35 (by decide)
            refine jx_rt (v := none) rfl rfl rfl rfl rfl rfl ?_
            exact ⟨_, _, (at0 + 2), 4, rfl, rfl, hW39, hF40, rfl, rfl, by omega⟩
        · have _q := h33
          refine jx_ld (pc' := 60) (l' := L11) (st' := [.int (i32 (r5)), .ref 66]) rfl (jl_iloadn gL11_2) ?_
          refine jx_go (tg := 64) rfl rfl ?_
          refine jr_put (pc' := 67) (i := 13) (z := r5) rfl rfl (by decide) rfl rfl rfl rfl rfl rfl ?_
          have hW41 : Wk (uG (uG G 11 (4)) 13 (r5)) A := Wk_g hW31 (show (-2147483648 : Int) ≤ r5 by omega) (show r5 ≤ (2147483647 : Int) by omega)
          have hF42 := Fr_g (z := r5) (i := 13) hF32 (by decide)
          refine jx_ld (pc' := 68) (l' := L11) (st' := [.ref 66]) rfl (jl_aloadn gL11_0) ?_
          refine jx_ld (pc' := 69) (l' := L11) (st' := [.int (i32 (r5)), .ref 66]) rfl (jl_iloadn gL11_2) ?_
          refine jx_if_le (pc' := 72) (tg := 81) rfl rfl rfl (by omega) (by omega) (fun h43 => ?_) (fun h43 => ?_)
          · have _q := h43
            refine jx_ld (pc' := 82) (l' := L11) (st' := [.ref 66, .ref 66]) rfl (jl_aloadn gL11_0) ?_
            refine jr_get (pc' := 85) (i := 10) (v := .int (i32 (at0))) rfl rfl (by decide) (rFv_eq (by decide) (show (uG (uG G 11 (4)) 13 (r5)) 10 = at0 from (e_at0))) rfl ?_
            refine jx_ar (pc' := 86) (st' := [.int (i32 (1)), .int (i32 (at0)), .ref 66]) rfl rfl rfl rfl ?_
            refine jx_add (pc' := 87) rfl rfl ?_
            refine jr_put (pc' := 90) (i := 10) (z := (at0 + 1)) rfl rfl (by decide) rfl rfl rfl rfl rfl rfl ?_
            have hW44 : Wk (uG (uG (uG G 11 (4)) 13 (r5)) 10 ((at0 + 1))) A := Wk_g hW41 (show (0 : Int) ≤ (at0 + 1) by omega) (show (at0 + 1) ≤ (3002 : Int) by omega)
            have hF45 := Fr_g (z := (at0 + 1)) (i := 10) hF42 (by decide)
            refine jx_rt (v := none) rfl rfl rfl rfl rfl rfl ?_
            exact ⟨_, _, (at0 + 1), 4, rfl, rfl, hW44, hF45, rfl, rfl, by omega⟩
          · have _q := h43
            refine jx_ld (pc' := 73) (l' := L11) (st' := [.ref 66, .ref 66]) rfl (jl_aloadn gL11_0) ?_
            refine jr_get (pc' := 76) (i := 10) (v := .int (i32 (at0))) rfl rfl (by decide) (rFv_eq (by decide) (show (uG (uG G 11 (4)) 13 (r5)) 10 = at0 from (e_at0))) rfl ?_
            refine jx_ar (pc' := 77) (st' := [.int (i32 (2)), .int (i32 (at0)), .ref 66]) rfl rfl rfl rfl ?_
            refine jx_add (pc' := 78) rfl rfl ?_
            refine jx_go (tg := 87) rfl rfl ?_
            refine jr_put (pc' := 90) (i := 10) (z := (at0 + 2)) rfl rfl (by decide) rfl rfl rfl rfl rfl rfl ?_
            have hW46 : Wk (uG (uG (uG G 11 (4)) 13 (r5)) 10 ((at0 + 2))) A := Wk_g hW41 (show (0 : Int) ≤ (at0 + 2) by omega) (show (at0 + 2) ≤ (3002 : Int) by omega)
            have hF47 := Fr_g (z := (at0 + 2)) (i := 10) hF42 (by decide)
            refine jx_rt (v := none) rfl rfl rfl rfl rfl rfl ?_
            exact ⟨_, _, (at0 + 2), 4, rfl, rfl, hW46, hF47, rfl, rfl, by omega⟩
  · have _q := h10
    refine jx_ld (pc' := 26) (l' := L8) (st' := [.int (i32 (c))]) rfl (jl_iloadn gL8_1) ?_
    refine jx_ar (pc' := 28) (st' := [.int (i32 (92)), .int (i32 (c))]) rfl rfl rfl rfl ?_
    refine jx_icmp_ne (pc' := 31) (tg := 35) rfl rfl rfl (by omega) (by omega) (by omega) (by omega) (fun h48 => ?_) (fun h48 => ?_)
    · have _q := h48
      refine jx_ar (pc' := 36) (st' := [.int (i32 (0))]) rfl rfl rfl rfl ?_
      refine jx_ld (pc' := 37) (l' := jSto1 L8 3 (.int (i32 (0)))) (st' := []) rfl rfl ?_
      obtain ⟨L49, eL49⟩ : ∃ q, q = jSto1 L8 3 (.int (i32 (0))) := ⟨_, rfl⟩
      rw [← eL49]
      have gL49_0 : jGet L49 0 = some (.ref 66) := eL49 ▸ jg_ne (by decide) gL8_0 rfl
      have gL49_1 : jGet L49 1 = some (.int (i32 (c))) := eL49 ▸ jg_ne (by decide) gL8_1 rfl
      have gL49_2 : jGet L49 2 = some (.int (i32 (r5))) := eL49 ▸ jg_ne (by decide) gL8_2 rfl
      have gL49_3 : jGet L49 3 = some (.int (i32 (0))) := eL49 ▸ jg_eq
      refine jx_ld (pc' := 38) (l' := L49) (st' := [.ref 66]) rfl (jl_aloadn gL49_0) ?_
      refine jx_ld (pc' := 39) (l' := L49) (st' := [.int (i32 (r5)), .ref 66]) rfl (jl_iloadn gL49_2) ?_
      refine jx_if_gt (pc' := 42) (tg := 46) rfl rfl rfl (by omega) (by omega) (fun h50 => ?_) (fun h50 => ?_)
      · have _q := h50
        refine jx_ar (pc' := 47) (st' := [.int (i32 (4)), .ref 66]) rfl rfl rfl rfl ?_
        refine jx_go (tg := 51) rfl rfl ?_
        refine jr_put (pc' := 54) (i := 11) (z := 4) rfl rfl (by decide) rfl rfl rfl rfl rfl rfl ?_
        have hW51 : Wk (uG G 11 (4)) A := Wk_g hW (show (0 : Int) ≤ 4 by omega) (show 4 ≤ (5 : Int) by omega)
        have hF52 := Fr_g (z := 4) (i := 11) hF0 (by decide)
        refine jx_ld (pc' := 55) (l' := L49) (st' := [.ref 66]) rfl (jl_aloadn gL49_0) ?_
        refine jx_ld (pc' := 56) (l' := L49) (st' := [.int (i32 (r5)), .ref 66]) rfl (jl_iloadn gL49_2) ?_
        refine jx_if_le (pc' := 59) (tg := 63) rfl rfl rfl (by omega) (by omega) (fun h53 => ?_) (fun h53 => ?_)
        · have _q := h53
          refine jx_ld (pc' := 64) (l' := L49) (st' := [.int (i32 (c)), .ref 66]) rfl (jl_iloadn gL49_1) ?_
          refine jr_put (pc' := 67) (i := 13) (z := c) rfl rfl (by decide) rfl rfl rfl rfl rfl rfl ?_
          have hW54 : Wk (uG (uG G 11 (4)) 13 (c)) A := Wk_g hW51 (show (-2147483648 : Int) ≤ c by omega) (show c ≤ (2147483647 : Int) by omega)
          have hF55 := Fr_g (z := c) (i := 13) hF52 (by decide)
          refine jx_ld (pc' := 68) (l' := L49) (st' := [.ref 66]) rfl (jl_aloadn gL49_0) ?_
          refine jx_ld (pc' := 69) (l' := L49) (st' := [.int (i32 (r5)), .ref 66]) rfl (jl_iloadn gL49_2) ?_
          refine jx_if_le (pc' := 72) (tg := 81) rfl rfl rfl (by omega) (by omega) (fun h56 => ?_) (fun h56 => ?_)
          · have _q := h56
            refine jx_ld (pc' := 82) (l' := L49) (st' := [.ref 66, .ref 66]) rfl (jl_aloadn gL49_0) ?_
            refine jr_get (pc' := 85) (i := 10) (v := .int (i32 (at0))) rfl rfl (by decide) (rFv_eq (by decide) (show (uG (uG G 11 (4)) 13 (c)) 10 = at0 from (e_at0))) rfl ?_
            refine jx_ar (pc' := 86) (st' := [.int (i32 (1)), .int (i32 (at0)), .ref 66]) rfl rfl rfl rfl ?_
            refine jx_add (pc' := 87) rfl rfl ?_
            refine jr_put (pc' := 90) (i := 10) (z := (at0 + 1)) rfl rfl (by decide) rfl rfl rfl rfl rfl rfl ?_
            have hW57 : Wk (uG (uG (uG G 11 (4)) 13 (c)) 10 ((at0 + 1))) A := Wk_g hW54 (show (0 : Int) ≤ (at0 + 1) by omega) (show (at0 + 1) ≤ (3002 : Int) by omega)
            have hF58 := Fr_g (z := (at0 + 1)) (i := 10) hF55 (by decide)
            refine jx_rt (v := none) rfl rfl rfl rfl rfl rfl ?_
            exact ⟨_, _, (at0 + 1), 4, rfl, rfl, hW57, hF58, rfl, rfl, by omega⟩
          · have _q := h56
            refine jx_ld (pc' := 73) (l' := L49) (st' := [.ref 66, .ref 66]) rfl (jl_aloadn gL49_0) ?_
            refine jr_get (pc' := 76) (i := 10) (v := .int (i32 (at0))) rfl rfl (by decide) (rFv_eq (by decide) (show (uG (uG G 11 (4)) 13 (c)) 10 = at0 from (e_at0))) rfl ?_
            refine jx_ar (pc' := 77) (st' := [.int (i32 (2)), .int (i32 (at0)), .ref 66]) rfl rfl rfl rfl ?_
            refine jx_add (pc' := 78) rfl rfl ?_
            refine jx_go (tg := 87) rfl rfl ?_
            refine jr_put (pc' := 90) (i := 10) (z := (at0 + 2)) rfl rfl (by decide) rfl rfl rfl rfl rfl rfl ?_
            have hW59 : Wk (uG (uG (uG G 11 (4)) 13 (c)) 10 ((at0 + 2))) A := Wk_g hW54 (show (0 : Int) ≤ (at0 + 2) by omega) (show (at0 + 2) ≤ (3002 : Int) by omega)
            have hF60 := Fr_g (z := (at0 + 2)) (i := 10) hF55 (by decide)
            refine jx_rt (v := none) rfl rfl rfl rfl rfl rfl ?_
            exact ⟨_, _, (at0 + 2), 4, rfl, rfl, hW59, hF60, rfl, rfl, by omega⟩
        · have _q := h53
          refine jx_ld (pc' := 60) (l' := L49) (st' := [.int (i32 (r5)), .ref 66]) rfl (jl_iloadn gL49_2) ?_
          refine jx_go (tg := 64) rfl rfl ?_
          refine jr_put (pc' := 67) (i := 13) (z := r5) rfl rfl (by decide) rfl rfl rfl rfl rfl rfl ?_
          have hW61 : Wk (uG (uG G 11 (4)) 13 (r5)) A := Wk_g hW51 (show (-2147483648 : Int) ≤ r5 by omega) (show r5 ≤ (2147483647 : Int) by omega)
          have hF62 := Fr_g (z := r5) (i := 13) hF52 (by decide)
          refine jx_ld (pc' := 68) (l' := L49) (st' := [.ref 66]) rfl (jl_aloadn gL49_0) ?_
          refine jx_ld (pc' := 69) (l' := L49) (st' := [.int (i32 (r5)), .ref 66]) rfl (jl_iloadn gL49_2) ?_
          refine jx_if_le (pc' := 72) (tg := 81) rfl rfl rfl (by omega) (by omega) (fun h63 => ?_) (fun h63 => ?_)
          · have _q := h63
            refine jx_ld (pc' := 82) (l' := L49) (st' := [.ref 66, .ref 66]) rfl (jl_aloadn gL49_0) ?_
            refine jr_get (pc' := 85) (i := 10) (v := .int (i32 (at0))) rfl rfl (by decide) (rFv_eq (by decide) (show (uG (uG G 11 (4)) 13 (r5)) 10 = at0 from (e_at0))) rfl ?_
            refine jx_ar (pc' := 86) (st' := [.int (i32 (1)), .int (i32 (at0)), .ref 66]) rfl rfl rfl rfl ?_
            refine jx_add (pc' := 87) rfl rfl ?_
            refine jr_put (pc' := 90) (i := 10) (z := (at0 + 1)) rfl rfl (by decide) rfl rfl rfl rfl rfl rfl ?_
            have hW64 : Wk (uG (uG (uG G 11 (4)) 13 (r5)) 10 ((at0 + 1))) A := Wk_g hW61 (show (0 : Int) ≤ (at0 + 1) by omega) (show (at0 + 1) ≤ (3002 : Int) by omega)
            have hF65 := Fr_g (z := (at0 + 1)) (i := 10) hF62 (by decide)
            refine jx_rt (v := none) rfl rfl rfl rfl rfl rfl ?_
            exact ⟨_, _, (at0 + 1), 4, rfl, rfl, hW64, hF65, rfl, rfl, by omega⟩
          · have _q := h63
            refine jx_ld (pc' := 73) (l' := L49) (st' := [.ref 66, .ref 66]) rfl (jl_aloadn gL49_0) ?_
            refine jr_get (pc' := 76) (i := 10) (v := .int (i32 (at0))) rfl rfl (by decide) (rFv_eq (by decide) (show (uG (uG G 11 (4)) 13 (r5)) 10 = at0 from (e_at0))) rfl ?_
            refine jx_ar (pc' := 77) (st' := [.int (i32 (2)), .int (i32 (at0)), .ref 66]) rfl rfl rfl rfl ?_
            refine jx_add (pc' := 78) rfl rfl ?_
            refine jx_go (tg := 87) rfl rfl ?_
            refine jr_put (pc' := 90) (i := 10) (z := (at0 + 2)) rfl rfl (by decide) rfl rfl rfl rfl rfl rfl ?_
            have hW66 : Wk (uG (uG (uG G 11 (4)) 13 (r5)) 10 ((at0 + 2))) A := Wk_g hW61 (show (0 : Int) ≤ (at0 + 2) by omega) (show (at0 + 2) ≤ (3002 : Int) by omega)
            have hF67 := Fr_g (z := (at0 + 2)) (i := 10) hF62 (by decide)
            refine jx_rt (v := none) rfl rfl rfl rfl rfl rfl ?_
            exact ⟨_, _, (at0 + 2), 4, rfl, rfl, hW66, hF67, rfl, rfl, by omega⟩
      · have _q := h50
        refine jx_ld (pc' := 43) (l' := L49) (st' := [.int (i32 (0)), .ref 66]) rfl (jl_iloadn gL49_3) ?_
        refine jx_if_eq (pc' := 46) (tg := 50) rfl rfl rfl (by omega) (by omega) (fun h68 => ?_) (fun h68 => ?_)
        · have _q := h68
          refine jx_ar (pc' := 51) (st' := [.int (i32 (5)), .ref 66]) rfl rfl rfl rfl ?_
          refine jr_put (pc' := 54) (i := 11) (z := 5) rfl rfl (by decide) rfl rfl rfl rfl rfl rfl ?_
          have hW69 : Wk (uG G 11 (5)) A := Wk_g hW (show (0 : Int) ≤ 5 by omega) (show 5 ≤ (5 : Int) by omega)
          have hF70 := Fr_g (z := 5) (i := 11) hF0 (by decide)
          refine jx_ld (pc' := 55) (l' := L49) (st' := [.ref 66]) rfl (jl_aloadn gL49_0) ?_
          refine jx_ld (pc' := 56) (l' := L49) (st' := [.int (i32 (r5)), .ref 66]) rfl (jl_iloadn gL49_2) ?_
          refine jx_if_le (pc' := 59) (tg := 63) rfl rfl rfl (by omega) (by omega) (fun h71 => ?_) (fun h71 => ?_)
          · have _q := h71
            refine jx_ld (pc' := 64) (l' := L49) (st' := [.int (i32 (c)), .ref 66]) rfl (jl_iloadn gL49_1) ?_
            refine jr_put (pc' := 67) (i := 13) (z := c) rfl rfl (by decide) rfl rfl rfl rfl rfl rfl ?_
            have hW72 : Wk (uG (uG G 11 (5)) 13 (c)) A := Wk_g hW69 (show (-2147483648 : Int) ≤ c by omega) (show c ≤ (2147483647 : Int) by omega)
            have hF73 := Fr_g (z := c) (i := 13) hF70 (by decide)
            refine jx_ld (pc' := 68) (l' := L49) (st' := [.ref 66]) rfl (jl_aloadn gL49_0) ?_
            refine jx_ld (pc' := 69) (l' := L49) (st' := [.int (i32 (r5)), .ref 66]) rfl (jl_iloadn gL49_2) ?_
            refine jx_if_le (pc' := 72) (tg := 81) rfl rfl rfl (by omega) (by omega) (fun h74 => ?_) (fun h74 => ?_)
            · have _q := h74
              refine jx_ld (pc' := 82) (l' := L49) (st' := [.ref 66, .ref 66]) rfl (jl_aloadn gL49_0) ?_
              refine jr_get (pc' := 85) (i := 10) (v := .int (i32 (at0))) rfl rfl (by decide) (rFv_eq (by decide) (show (uG (uG G 11 (5)) 13 (c)) 10 = at0 from (e_at0))) rfl ?_
              refine jx_ar (pc' := 86) (st' := [.int (i32 (1)), .int (i32 (at0)), .ref 66]) rfl rfl rfl rfl ?_
              refine jx_add (pc' := 87) rfl rfl ?_
              refine jr_put (pc' := 90) (i := 10) (z := (at0 + 1)) rfl rfl (by decide) rfl rfl rfl rfl rfl rfl ?_
              have hW75 : Wk (uG (uG (uG G 11 (5)) 13 (c)) 10 ((at0 + 1))) A := Wk_g hW72 (show (0 : Int) ≤ (at0 + 1) by omega) (show (at0 + 1) ≤ (3002 : Int) by omega)
              have hF76 := Fr_g (z := (at0 + 1)) (i := 10) hF73 (by decide)
              refine jx_rt (v := none) rfl rfl rfl rfl rfl rfl ?_
              exact ⟨_, _, (at0 + 1), 5, rfl, rfl, hW75, hF76, rfl, rfl, by omega⟩
            · have _q := h74
              refine jx_ld (pc' := 73) (l' := L49) (st' := [.ref 66, .ref 66]) rfl (jl_aloadn gL49_0) ?_
              refine jr_get (pc' := 76) (i := 10) (v := .int (i32 (at0))) rfl rfl (by decide) (rFv_eq (by decide) (show (uG (uG G 11 (5)) 13 (c)) 10 = at0 from (e_at0))) rfl ?_
              refine jx_ar (pc' := 77) (st' := [.int (i32 (2)), .int (i32 (at0)), .ref 66]) rfl rfl rfl rfl ?_
              refine jx_add (pc' := 78) rfl rfl ?_
              refine jx_go (tg := 87) rfl rfl ?_
              refine jr_put (pc' := 90) (i := 10) (z := (at0 + 2)) rfl rfl (by decide) rfl rfl rfl rfl rfl rfl ?_
              have hW77 : Wk (uG (uG (uG G 11 (5)) 13 (c)) 10 ((at0 + 2))) A := Wk_g hW72 (show (0 : Int) ≤ (at0 + 2) by omega) (show (at0 + 2) ≤ (3002 : Int) by omega)
              have hF78 := Fr_g (z := (at0 + 2)) (i := 10) hF73 (by decide)
              refine jx_rt (v := none) rfl rfl rfl rfl rfl rfl ?_
              exact ⟨_, _, (at0 + 2), 5, rfl, rfl, hW77, hF78, rfl, rfl, by omega⟩
          · have _q := h71
            refine jx_ld (pc' := 60) (l' := L49) (st' := [.int (i32 (r5)), .ref 66]) rfl (jl_iloadn gL49_2) ?_
            refine jx_go (tg := 64) rfl rfl ?_
            refine jr_put (pc' := 67) (i := 13) (z := r5) rfl rfl (by decide) rfl rfl rfl rfl rfl rfl ?_
            have hW79 : Wk (uG (uG G 11 (5)) 13 (r5)) A := Wk_g hW69 (show (-2147483648 : Int) ≤ r5 by omega) (show r5 ≤ (2147483647 : Int) by omega)
            have hF80 := Fr_g (z := r5) (i := 13) hF70 (by decide)
            refine jx_ld (pc' := 68) (l' := L49) (st' := [.ref 66]) rfl (jl_aloadn gL49_0) ?_
            refine jx_ld (pc' := 69) (l' := L49) (st' := [.int (i32 (r5)), .ref 66]) rfl (jl_iloadn gL49_2) ?_
            refine jx_if_le (pc' := 72) (tg := 81) rfl rfl rfl (by omega) (by omega) (fun h81 => ?_) (fun h81 => ?_)
            · have _q := h81
              refine jx_ld (pc' := 82) (l' := L49) (st' := [.ref 66, .ref 66]) rfl (jl_aloadn gL49_0) ?_
              refine jr_get (pc' := 85) (i := 10) (v := .int (i32 (at0))) rfl rfl (by decide) (rFv_eq (by decide) (show (uG (uG G 11 (5)) 13 (r5)) 10 = at0 from (e_at0))) rfl ?_
              refine jx_ar (pc' := 86) (st' := [.int (i32 (1)), .int (i32 (at0)), .ref 66]) rfl rfl rfl rfl ?_
              refine jx_add (pc' := 87) rfl rfl ?_
              refine jr_put (pc' := 90) (i := 10) (z := (at0 + 1)) rfl rfl (by decide) rfl rfl rfl rfl rfl rfl ?_
              have hW82 : Wk (uG (uG (uG G 11 (5)) 13 (r5)) 10 ((at0 + 1))) A := Wk_g hW79 (show (0 : Int) ≤ (at0 + 1) by omega) (show (at0 + 1) ≤ (3002 : Int) by omega)
              have hF83 := Fr_g (z := (at0 + 1)) (i := 10) hF80 (by decide)
              refine jx_rt (v := none) rfl rfl rfl rfl rfl rfl ?_
              exact ⟨_, _, (at0 + 1), 5, rfl, rfl, hW82, hF83, rfl, rfl, by omega⟩
            · have _q := h81
              refine jx_ld (pc' := 73) (l' := L49) (st' := [.ref 66, .ref 66]) rfl (jl_aloadn gL49_0) ?_
              refine jr_get (pc' := 76) (i := 10) (v := .int (i32 (at0))) rfl rfl (by decide) (rFv_eq (by decide) (show (uG (uG G 11 (5)) 13 (r5)) 10 = at0 from (e_at0))) rfl ?_
              refine jx_ar (pc' := 77) (st' := [.int (i32 (2)), .int (i32 (at0)), .ref 66]) rfl rfl rfl rfl ?_
              refine jx_add (pc' := 78) rfl rfl ?_
              refine jx_go (tg := 87) rfl rfl ?_
              refine jr_put (pc' := 90) (i := 10) (z := (at0 + 2)) rfl rfl (by decide) rfl rfl rfl rfl rfl rfl ?_
              have hW84 : Wk (uG (uG (uG G 11 (5)) 13 (r5)) 10 ((at0 + 2))) A := Wk_g hW79 (show (0 : Int) ≤ (at0 + 2) by omega) (show (at0 + 2) ≤ (3002 : Int) by omega)
              have hF85 := Fr_g (z := (at0 + 2)) (i := 10) hF80 (by decide)
              refine jx_rt (v := none) rfl rfl rfl rfl rfl rfl ?_
              exact ⟨_, _, (at0 + 2), 5, rfl, rfl, hW84, hF85, rfl, rfl, by omega⟩
        · have _q := h68
          exact absurd h68 (by omega)
    · have _q := h48
      refine jx_ar (pc' := 32) (st' := [.int (i32 (1))]) rfl rfl rfl rfl ?_
      refine jx_go (tg := 36) rfl rfl ?_
      refine jx_ld (pc' := 37) (l' := jSto1 L8 3 (.int (i32 (1)))) (st' := []) rfl rfl ?_
      obtain ⟨L86, eL86⟩ : ∃ q, q = jSto1 L8 3 (.int (i32 (1))) := ⟨_, rfl⟩
      rw [← eL86]
      have gL86_0 : jGet L86 0 = some (.ref 66) := eL86 ▸ jg_ne (by decide) gL8_0 rfl
      have gL86_1 : jGet L86 1 = some (.int (i32 (c))) := eL86 ▸ jg_ne (by decide) gL8_1 rfl
      have gL86_2 : jGet L86 2 = some (.int (i32 (r5))) := eL86 ▸ jg_ne (by decide) gL8_2 rfl
      have gL86_3 : jGet L86 3 = some (.int (i32 (1))) := eL86 ▸ jg_eq
      refine jx_ld (pc' := 38) (l' := L86) (st' := [.ref 66]) rfl (jl_aloadn gL86_0) ?_
      refine jx_ld (pc' := 39) (l' := L86) (st' := [.int (i32 (r5)), .ref 66]) rfl (jl_iloadn gL86_2) ?_
      refine jx_if_gt (pc' := 42) (tg := 46) rfl rfl rfl (by omega) (by omega) (fun h87 => ?_) (fun h87 => ?_)
      · have _q := h87
        refine jx_ar (pc' := 47) (st' := [.int (i32 (4)), .ref 66]) rfl rfl rfl rfl ?_
        refine jx_go (tg := 51) rfl rfl ?_
        refine jr_put (pc' := 54) (i := 11) (z := 4) rfl rfl (by decide) rfl rfl rfl rfl rfl rfl ?_
        have hW88 : Wk (uG G 11 (4)) A := Wk_g hW (show (0 : Int) ≤ 4 by omega) (show 4 ≤ (5 : Int) by omega)
        have hF89 := Fr_g (z := 4) (i := 11) hF0 (by decide)
        refine jx_ld (pc' := 55) (l' := L86) (st' := [.ref 66]) rfl (jl_aloadn gL86_0) ?_
        refine jx_ld (pc' := 56) (l' := L86) (st' := [.int (i32 (r5)), .ref 66]) rfl (jl_iloadn gL86_2) ?_
        refine jx_if_le (pc' := 59) (tg := 63) rfl rfl rfl (by omega) (by omega) (fun h90 => ?_) (fun h90 => ?_)
        · have _q := h90
          refine jx_ld (pc' := 64) (l' := L86) (st' := [.int (i32 (c)), .ref 66]) rfl (jl_iloadn gL86_1) ?_
          refine jr_put (pc' := 67) (i := 13) (z := c) rfl rfl (by decide) rfl rfl rfl rfl rfl rfl ?_
          have hW91 : Wk (uG (uG G 11 (4)) 13 (c)) A := Wk_g hW88 (show (-2147483648 : Int) ≤ c by omega) (show c ≤ (2147483647 : Int) by omega)
          have hF92 := Fr_g (z := c) (i := 13) hF89 (by decide)
          refine jx_ld (pc' := 68) (l' := L86) (st' := [.ref 66]) rfl (jl_aloadn gL86_0) ?_
          refine jx_ld (pc' := 69) (l' := L86) (st' := [.int (i32 (r5)), .ref 66]) rfl (jl_iloadn gL86_2) ?_
          refine jx_if_le (pc' := 72) (tg := 81) rfl rfl rfl (by omega) (by omega) (fun h93 => ?_) (fun h93 => ?_)
          · have _q := h93
            refine jx_ld (pc' := 82) (l' := L86) (st' := [.ref 66, .ref 66]) rfl (jl_aloadn gL86_0) ?_
            refine jr_get (pc' := 85) (i := 10) (v := .int (i32 (at0))) rfl rfl (by decide) (rFv_eq (by decide) (show (uG (uG G 11 (4)) 13 (c)) 10 = at0 from (e_at0))) rfl ?_
            refine jx_ar (pc' := 86) (st' := [.int (i32 (1)), .int (i32 (at0)), .ref 66]) rfl rfl rfl rfl ?_
            refine jx_add (pc' := 87) rfl rfl ?_
            refine jr_put (pc' := 90) (i := 10) (z := (at0 + 1)) rfl rfl (by decide) rfl rfl rfl rfl rfl rfl ?_
            have hW94 : Wk (uG (uG (uG G 11 (4)) 13 (c)) 10 ((at0 + 1))) A := Wk_g hW91 (show (0 : Int) ≤ (at0 + 1) by omega) (show (at0 + 1) ≤ (3002 : Int) by omega)
            have hF95 := Fr_g (z := (at0 + 1)) (i := 10) hF92 (by decide)
            refine jx_rt (v := none) rfl rfl rfl rfl rfl rfl ?_
            exact ⟨_, _, (at0 + 1), 4, rfl, rfl, hW94, hF95, rfl, rfl, by omega⟩
          · have _q := h93
            refine jx_ld (pc' := 73) (l' := L86) (st' := [.ref 66, .ref 66]) rfl (jl_aloadn gL86_0) ?_
            refine jr_get (pc' := 76) (i := 10) (v := .int (i32 (at0))) rfl rfl (by decide) (rFv_eq (by decide) (show (uG (uG G 11 (4)) 13 (c)) 10 = at0 from (e_at0))) rfl ?_
            refine jx_ar (pc' := 77) (st' := [.int (i32 (2)), .int (i32 (at0)), .ref 66]) rfl rfl rfl rfl ?_
            refine jx_add (pc' := 78) rfl rfl ?_
            refine jx_go (tg := 87) rfl rfl ?_
            refine jr_put (pc' := 90) (i := 10) (z := (at0 + 2)) rfl rfl (by decide) rfl rfl rfl rfl rfl rfl ?_
            have hW96 : Wk (uG (uG (uG G 11 (4)) 13 (c)) 10 ((at0 + 2))) A := Wk_g hW91 (show (0 : Int) ≤ (at0 + 2) by omega) (show (at0 + 2) ≤ (3002 : Int) by omega)
            have hF97 := Fr_g (z := (at0 + 2)) (i := 10) hF92 (by decide)
            refine jx_rt (v := none) rfl rfl rfl rfl rfl rfl ?_
            exact ⟨_, _, (at0 + 2), 4, rfl, rfl, hW96, hF97, rfl, rfl, by omega⟩
        · have _q := h90
          refine jx_ld (pc' := 60) (l' := L86) (st' := [.int (i32 (r5)), .ref 66]) rfl (jl_iloadn gL86_2) ?_
          refine jx_go (tg := 64) rfl rfl ?_
          refine jr_put (pc' := 67) (i := 13) (z := r5) rfl rfl (by decide) rfl rfl rfl rfl rfl rfl ?_
          have hW98 : Wk (uG (uG G 11 (4)) 13 (r5)) A := Wk_g hW88 (show (-2147483648 : Int) ≤ r5 by omega) (show r5 ≤ (2147483647 : Int) by omega)
          have hF99 := Fr_g (z := r5) (i := 13) hF89 (by decide)
          refine jx_ld (pc' := 68) (l' := L86) (st' := [.ref 66]) rfl (jl_aloadn gL86_0) ?_
          refine jx_ld (pc' := 69) (l' := L86) (st' := [.int (i32 (r5)), .ref 66]) rfl (jl_iloadn gL86_2) ?_
          refine jx_if_le (pc' := 72) (tg := 81) rfl rfl rfl (by omega) (by omega) (fun h100 => ?_) (fun h100 => ?_)
          · have _q := h100
            refine jx_ld (pc' := 82) (l' := L86) (st' := [.ref 66, .ref 66]) rfl (jl_aloadn gL86_0) ?_
            refine jr_get (pc' := 85) (i := 10) (v := .int (i32 (at0))) rfl rfl (by decide) (rFv_eq (by decide) (show (uG (uG G 11 (4)) 13 (r5)) 10 = at0 from (e_at0))) rfl ?_
            refine jx_ar (pc' := 86) (st' := [.int (i32 (1)), .int (i32 (at0)), .ref 66]) rfl rfl rfl rfl ?_
            refine jx_add (pc' := 87) rfl rfl ?_
            refine jr_put (pc' := 90) (i := 10) (z := (at0 + 1)) rfl rfl (by decide) rfl rfl rfl rfl rfl rfl ?_
            have hW101 : Wk (uG (uG (uG G 11 (4)) 13 (r5)) 10 ((at0 + 1))) A := Wk_g hW98 (show (0 : Int) ≤ (at0 + 1) by omega) (show (at0 + 1) ≤ (3002 : Int) by omega)
            have hF102 := Fr_g (z := (at0 + 1)) (i := 10) hF99 (by decide)
            refine jx_rt (v := none) rfl rfl rfl rfl rfl rfl ?_
            exact ⟨_, _, (at0 + 1), 4, rfl, rfl, hW101, hF102, rfl, rfl, by omega⟩
          · have _q := h100
            refine jx_ld (pc' := 73) (l' := L86) (st' := [.ref 66, .ref 66]) rfl (jl_aloadn gL86_0) ?_
            refine jr_get (pc' := 76) (i := 10) (v := .int (i32 (at0))) rfl rfl (by decide) (rFv_eq (by decide) (show (uG (uG G 11 (4)) 13 (r5)) 10 = at0 from (e_at0))) rfl ?_
            refine jx_ar (pc' := 77) (st' := [.int (i32 (2)), .int (i32 (at0)), .ref 66]) rfl rfl rfl rfl ?_
            refine jx_add (pc' := 78) rfl rfl ?_
            refine jx_go (tg := 87) rfl rfl ?_
            refine jr_put (pc' := 90) (i := 10) (z := (at0 + 2)) rfl rfl (by decide) rfl rfl rfl rfl rfl rfl ?_
            have hW103 : Wk (uG (uG (uG G 11 (4)) 13 (r5)) 10 ((at0 + 2))) A := Wk_g hW98 (show (0 : Int) ≤ (at0 + 2) by omega) (show (at0 + 2) ≤ (3002 : Int) by omega)
            have hF104 := Fr_g (z := (at0 + 2)) (i := 10) hF99 (by decide)
            refine jx_rt (v := none) rfl rfl rfl rfl rfl rfl ?_
            exact ⟨_, _, (at0 + 2), 4, rfl, rfl, hW103, hF104, rfl, rfl, by omega⟩
      · have _q := h87
        refine jx_ld (pc' := 43) (l' := L86) (st' := [.int (i32 (1)), .ref 66]) rfl (jl_iloadn gL86_3) ?_
        refine jx_if_eq (pc' := 46) (tg := 50) rfl rfl rfl (by omega) (by omega) (fun h105 => ?_) (fun h105 => ?_)
        · have _q := h105
          exact absurd h105 (by omega)
        · have _q := h105
          refine jx_ar (pc' := 47) (st' := [.int (i32 (4)), .ref 66]) rfl rfl rfl rfl ?_
          refine jx_go (tg := 51) rfl rfl ?_
          refine jr_put (pc' := 54) (i := 11) (z := 4) rfl rfl (by decide) rfl rfl rfl rfl rfl rfl ?_
          have hW106 : Wk (uG G 11 (4)) A := Wk_g hW (show (0 : Int) ≤ 4 by omega) (show 4 ≤ (5 : Int) by omega)
          have hF107 := Fr_g (z := 4) (i := 11) hF0 (by decide)
          refine jx_ld (pc' := 55) (l' := L86) (st' := [.ref 66]) rfl (jl_aloadn gL86_0) ?_
          refine jx_ld (pc' := 56) (l' := L86) (st' := [.int (i32 (r5)), .ref 66]) rfl (jl_iloadn gL86_2) ?_
          refine jx_if_le (pc' := 59) (tg := 63) rfl rfl rfl (by omega) (by omega) (fun h108 => ?_) (fun h108 => ?_)
          · have _q := h108
            refine jx_ld (pc' := 64) (l' := L86) (st' := [.int (i32 (c)), .ref 66]) rfl (jl_iloadn gL86_1) ?_
            refine jr_put (pc' := 67) (i := 13) (z := c) rfl rfl (by decide) rfl rfl rfl rfl rfl rfl ?_
            have hW109 : Wk (uG (uG G 11 (4)) 13 (c)) A := Wk_g hW106 (show (-2147483648 : Int) ≤ c by omega) (show c ≤ (2147483647 : Int) by omega)
            have hF110 := Fr_g (z := c) (i := 13) hF107 (by decide)
            refine jx_ld (pc' := 68) (l' := L86) (st' := [.ref 66]) rfl (jl_aloadn gL86_0) ?_
            refine jx_ld (pc' := 69) (l' := L86) (st' := [.int (i32 (r5)), .ref 66]) rfl (jl_iloadn gL86_2) ?_
            refine jx_if_le (pc' := 72) (tg := 81) rfl rfl rfl (by omega) (by omega) (fun h111 => ?_) (fun h111 => ?_)
            · have _q := h111
              refine jx_ld (pc' := 82) (l' := L86) (st' := [.ref 66, .ref 66]) rfl (jl_aloadn gL86_0) ?_
              refine jr_get (pc' := 85) (i := 10) (v := .int (i32 (at0))) rfl rfl (by decide) (rFv_eq (by decide) (show (uG (uG G 11 (4)) 13 (c)) 10 = at0 from (e_at0))) rfl ?_
              refine jx_ar (pc' := 86) (st' := [.int (i32 (1)), .int (i32 (at0)), .ref 66]) rfl rfl rfl rfl ?_
              refine jx_add (pc' := 87) rfl rfl ?_
              refine jr_put (pc' := 90) (i := 10) (z := (at0 + 1)) rfl rfl (by decide) rfl rfl rfl rfl rfl rfl ?_
              have hW112 : Wk (uG (uG (uG G 11 (4)) 13 (c)) 10 ((at0 + 1))) A := Wk_g hW109 (show (0 : Int) ≤ (at0 + 1) by omega) (show (at0 + 1) ≤ (3002 : Int) by omega)
              have hF113 := Fr_g (z := (at0 + 1)) (i := 10) hF110 (by decide)
              refine jx_rt (v := none) rfl rfl rfl rfl rfl rfl ?_
              exact ⟨_, _, (at0 + 1), 4, rfl, rfl, hW112, hF113, rfl, rfl, by omega⟩
            · have _q := h111
              refine jx_ld (pc' := 73) (l' := L86) (st' := [.ref 66, .ref 66]) rfl (jl_aloadn gL86_0) ?_
              refine jr_get (pc' := 76) (i := 10) (v := .int (i32 (at0))) rfl rfl (by decide) (rFv_eq (by decide) (show (uG (uG G 11 (4)) 13 (c)) 10 = at0 from (e_at0))) rfl ?_
              refine jx_ar (pc' := 77) (st' := [.int (i32 (2)), .int (i32 (at0)), .ref 66]) rfl rfl rfl rfl ?_
              refine jx_add (pc' := 78) rfl rfl ?_
              refine jx_go (tg := 87) rfl rfl ?_
              refine jr_put (pc' := 90) (i := 10) (z := (at0 + 2)) rfl rfl (by decide) rfl rfl rfl rfl rfl rfl ?_
              have hW114 : Wk (uG (uG (uG G 11 (4)) 13 (c)) 10 ((at0 + 2))) A := Wk_g hW109 (show (0 : Int) ≤ (at0 + 2) by omega) (show (at0 + 2) ≤ (3002 : Int) by omega)
              have hF115 := Fr_g (z := (at0 + 2)) (i := 10) hF110 (by decide)
              refine jx_rt (v := none) rfl rfl rfl rfl rfl rfl ?_
              exact ⟨_, _, (at0 + 2), 4, rfl, rfl, hW114, hF115, rfl, rfl, by omega⟩
          · have _q := h108
            refine jx_ld (pc' := 60) (l' := L86) (st' := [.int (i32 (r5)), .ref 66]) rfl (jl_iloadn gL86_2) ?_
            refine jx_go (tg := 64) rfl rfl ?_
            refine jr_put (pc' := 67) (i := 13) (z := r5) rfl rfl (by decide) rfl rfl rfl rfl rfl rfl ?_
            have hW116 : Wk (uG (uG G 11 (4)) 13 (r5)) A := Wk_g hW106 (show (-2147483648 : Int) ≤ r5 by omega) (show r5 ≤ (2147483647 : Int) by omega)
            have hF117 := Fr_g (z := r5) (i := 13) hF107 (by decide)
            refine jx_ld (pc' := 68) (l' := L86) (st' := [.ref 66]) rfl (jl_aloadn gL86_0) ?_
            refine jx_ld (pc' := 69) (l' := L86) (st' := [.int (i32 (r5)), .ref 66]) rfl (jl_iloadn gL86_2) ?_
            refine jx_if_le (pc' := 72) (tg := 81) rfl rfl rfl (by omega) (by omega) (fun h118 => ?_) (fun h118 => ?_)
            · have _q := h118
              refine jx_ld (pc' := 82) (l' := L86) (st' := [.ref 66, .ref 66]) rfl (jl_aloadn gL86_0) ?_
              refine jr_get (pc' := 85) (i := 10) (v := .int (i32 (at0))) rfl rfl (by decide) (rFv_eq (by decide) (show (uG (uG G 11 (4)) 13 (r5)) 10 = at0 from (e_at0))) rfl ?_
              refine jx_ar (pc' := 86) (st' := [.int (i32 (1)), .int (i32 (at0)), .ref 66]) rfl rfl rfl rfl ?_
              refine jx_add (pc' := 87) rfl rfl ?_
              refine jr_put (pc' := 90) (i := 10) (z := (at0 + 1)) rfl rfl (by decide) rfl rfl rfl rfl rfl rfl ?_
              have hW119 : Wk (uG (uG (uG G 11 (4)) 13 (r5)) 10 ((at0 + 1))) A := Wk_g hW116 (show (0 : Int) ≤ (at0 + 1) by omega) (show (at0 + 1) ≤ (3002 : Int) by omega)
              have hF120 := Fr_g (z := (at0 + 1)) (i := 10) hF117 (by decide)
              refine jx_rt (v := none) rfl rfl rfl rfl rfl rfl ?_
              exact ⟨_, _, (at0 + 1), 4, rfl, rfl, hW119, hF120, rfl, rfl, by omega⟩
            · have _q := h118
              refine jx_ld (pc' := 73) (l' := L86) (st' := [.ref 66, .ref 66]) rfl (jl_aloadn gL86_0) ?_
              refine jr_get (pc' := 76) (i := 10) (v := .int (i32 (at0))) rfl rfl (by decide) (rFv_eq (by decide) (show (uG (uG G 11 (4)) 13 (r5)) 10 = at0 from (e_at0))) rfl ?_
              refine jx_ar (pc' := 77) (st' := [.int (i32 (2)), .int (i32 (at0)), .ref 66]) rfl rfl rfl rfl ?_
              refine jx_add (pc' := 78) rfl rfl ?_
              refine jx_go (tg := 87) rfl rfl ?_
              refine jr_put (pc' := 90) (i := 10) (z := (at0 + 2)) rfl rfl (by decide) rfl rfl rfl rfl rfl rfl ?_
              have hW121 : Wk (uG (uG (uG G 11 (4)) 13 (r5)) 10 ((at0 + 2))) A := Wk_g hW116 (show (0 : Int) ≤ (at0 + 2) by omega) (show (at0 + 2) ≤ (3002 : Int) by omega)
              have hF122 := Fr_g (z := (at0 + 2)) (i := 10) hF117 (by decide)
              refine jx_rt (v := none) rfl rfl rfl rfl rfl rfl ?_
              exact ⟨_, _, (at0 + 2), 4, rfl, rfl, hW121, hF122, rfl, rfl, by omega⟩
set_option maxRecDepth 20000 in
set_option maxHeartbeats 4000000 in
theorem c_next {X : jX} {dd : Nat} {c0 c1 : jC} {G : Nat → Int} {A : Nat → Nat → Int} {T : jH} {ln le at0 : Int} (hd : 4 ≤ dd) (hW : Wk G A) (e_ln : G 9 = ln) (e_le : A 4 (ln).toNat = le) (e_at0 : G 10 = at0) : wk X dd 259 [.ref 66] (rV c0 c1 G A T) (fun o V' => ∃ (G' : Nat → Int) (A' : Nat → Nat → Int) (at2 : Int) (tk2 : Int), V' = rV c0 c1 G' A' T ∧ o = .inl none ∧ Wk G' A' ∧ Fr [10, 11, 12, 13, 14] [] G A G' A' ∧ G' 10 = at2 ∧ G' 11 = tk2 ∧ (at0 ≤ at2) ∧ (tk2 = 0 ∨ (at0 < at2 ∧ at2 ≤ le)) ∧ (at2 ≤ le ∨ at2 = at0)) := by
  obtain ⟨d, rfl⟩ : ∃ d, dd = d + 1 := ⟨dd - 1, by omega⟩
  refine wk_of (e := jm259) rfl (Nat.le_of_ble_eq_true rfl) ?_
  show wj X d jm259 (0, [(0, .ref 66)], [], rV c0 c1 G A T) _
  have hF0 : Fr [10, 11, 12, 13, 14] [] G A G A := Fr_rf
  have b_ln : (0 : Int) ≤ ln ∧ ln ≤ 3000 := e_ln ▸ hW.1 9
  have b_le : (0 : Int) ≤ le ∧ le ≤ 3000 := e_le ▸ hW.2 4 _
  have b_at0 : (0 : Int) ≤ at0 ∧ at0 ≤ 3002 := e_at0 ▸ hW.1 10
  have loop1 : ∀ (m : Nat) (L : jL) (Gx : Nat → Int) (Ax : Nat → Nat → Int) (at1 : Int), (3002 - at1).toNat = m → jGet L 0 = some (.ref 66) → Wk Gx Ax → Fr [10, 11, 12, 13, 14] [] G A Gx Ax → Gx 10 = at1 → (at0 ≤ at1) → (at1 ≤ le ∨ at1 = at0) → wj X d jm259 (0, L, [], rV c0 c1 Gx Ax T) (fun o V' => ∃ (G' : Nat → Int) (A' : Nat → Nat → Int) (at2 : Int) (tk2 : Int), V' = rV c0 c1 G' A' T ∧ o = .inl none ∧ Wk G' A' ∧ Fr [10, 11, 12, 13, 14] [] G A G' A' ∧ G' 10 = at2 ∧ G' 11 = tk2 ∧ (at0 ≤ at2) ∧ (tk2 = 0 ∨ (at0 < at2 ∧ at2 ≤ le)) ∧ (at2 ≤ le ∨ at2 = at0)) := by
    intro m
    induction m using Nat.strongRecOn with
    | ind m ih =>
      intro L Gx Ax at1 hm gL_0 hWx hFx ex_at1 iv_0 iv_1
      have b_at1 : (0 : Int) ≤ at1 ∧ at1 ≤ 3002 := ex_at1 ▸ hWx.1 10
      refine jx_ld (pc' := 1) (l' := L) (st' := [.ref 66]) rfl (jl_aloadn gL_0) ?_
      refine jx_ld (pc' := 2) (l' := L) (st' := [.ref 66, .ref 66]) rfl (jl_aloadn gL_0) ?_
      refine jr_get (pc' := 5) (i := 10) (v := .int (i32 (at1))) rfl rfl (by decide) (rFv_eq (by decide) (show Gx 10 = at1 from (ex_at1))) rfl ?_
      have b2 : (0 : Int) ≤ A 0 (at1).toNat ∧ A 0 (at1).toNat ≤ 126 := hW.2 0 _
      refine jx_vr (pc' := 8) (as := [.int (i32 (at1))]) (st := []) rfl rfl rfl rfl ⟨rfl, rfl, Nat.le_of_ble_eq_true rfl⟩ rfl rfl (c_sign (dd := d) (hd := by omega) (hW := hWx) (k := at1) (ln := ln) (e_ln := show Gx 9 = ln from ((hFx.1 9 rfl).trans (e_ln))) (le := le) (e_le := show Ax 4 (ln).toNat = le from (congrFun (hFx.2 4 rfl) _).trans (e_le)) (tx := A 0 (at1).toNat) (e_tx := show Ax 0 (at1).toNat = A 0 (at1).toNat from (congrFun (hFx.2 0 rfl) _))  (h_k := by omega)  (p_0 := by omega)) (fun o V' hq => ?_)
      obtain ⟨r3, rfl, rfl, b4, p5⟩ := hq
      refine .inr ⟨_, rfl, ?_⟩
      refine jx_ar (pc' := 10) (st' := [.int (i32 (32)), .int (i32 (r3))]) rfl rfl rfl rfl ?_
      refine jx_icmp_ne (pc' := 13) (tg := 26) rfl rfl rfl (by omega) (by omega) (by omega) (by omega) (fun h6 => ?_) (fun h6 => ?_)
      · have _q := h6
        refine jx_ld (pc' := 27) (l' := L) (st' := [.ref 66]) rfl (jl_aloadn gL_0) ?_
        refine jx_ld (pc' := 28) (l' := L) (st' := [.ref 66, .ref 66]) rfl (jl_aloadn gL_0) ?_
        refine jr_get (pc' := 31) (i := 10) (v := .int (i32 (at1))) rfl rfl (by decide) (rFv_eq (by decide) (show Gx 10 = at1 from (ex_at1))) rfl ?_
        refine jx_ld (pc' := 32) (l' := L) (st' := [.ref 66, .int (i32 (at1)), .ref 66]) rfl (jl_aloadn gL_0) ?_
        refine jr_get (pc' := 35) (i := 5) (v := .ref 69) rfl rfl (by decide) rfl rfl ?_
        refine jx_ld (pc' := 36) (l' := L) (st' := [.ref 66, .ref 69, .int (i32 (at1)), .ref 66]) rfl (jl_aloadn gL_0) ?_
        refine jr_get (pc' := 39) (i := 9) (v := .int (i32 (ln))) rfl rfl (by decide) (rFv_eq (by decide) (show Gx 9 = ln from ((hFx.1 9 rfl).trans (e_ln)))) rfl ?_
        have b7 : (0 : Int) ≤ A 2 (ln).toNat ∧ A 2 (ln).toNat ≤ 3000 := hW.2 2 _
        refine jr_ldv (pc' := 40) (i := 2) (m := 3001) (z := ln) (y := A 2 (ln).toNat) rfl (by decide) rfl (by decide) (by omega) (by omega) rfl (show Ax 2 (ln).toNat = A 2 (ln).toNat from (congrFun (hFx.2 2 rfl) _)) ?_
        refine jx_sub (pc' := 41) rfl rfl ?_
        refine jr_put (pc' := 44) (i := 12) (z := (at1 - A 2 (ln).toNat)) rfl rfl (by decide) rfl rfl rfl rfl rfl rfl ?_
        have hW8 : Wk (uG Gx 12 ((at1 - A 2 (ln).toNat))) Ax := Wk_g hWx (show (-3000 : Int) ≤ (at1 - A 2 (ln).toNat) by omega) (show (at1 - A 2 (ln).toNat) ≤ (3002 : Int) by omega)
        have hF9 := Fr_g (z := (at1 - A 2 (ln).toNat)) (i := 12) hFx (by decide)
        refine jx_ld (pc' := 45) (l' := L) (st' := [.ref 66]) rfl (jl_aloadn gL_0) ?_
        refine jx_ld (pc' := 46) (l' := L) (st' := [.ref 66, .ref 66]) rfl (jl_aloadn gL_0) ?_
        refine jr_get (pc' := 49) (i := 10) (v := .int (i32 (at1))) rfl rfl (by decide) (rFv_eq (by decide) (show (uG Gx 12 ((at1 - A 2 (ln).toNat))) 10 = at1 from (ex_at1))) rfl ?_
        refine jx_vr (pc' := 52) (as := [.int (i32 (at1))]) (st := []) rfl rfl rfl rfl ⟨rfl, rfl, Nat.le_of_ble_eq_true rfl⟩ rfl rfl (c_sign (dd := d) (hd := by omega) (hW := hW8) (k := at1) (ln := ln) (e_ln := show (uG Gx 12 ((at1 - A 2 (ln).toNat))) 9 = ln from ((hFx.1 9 rfl).trans (e_ln))) (le := le) (e_le := show Ax 4 (ln).toNat = le from (congrFun (hFx.2 4 rfl) _).trans (e_le)) (tx := A 0 (at1).toNat) (e_tx := show Ax 0 (at1).toNat = A 0 (at1).toNat from (congrFun (hFx.2 0 rfl) _))  (h_k := by omega)  (p_0 := by omega)) (fun o V' hq => ?_)
        obtain ⟨r10, rfl, rfl, b11, p12⟩ := hq
        refine .inr ⟨_, rfl, ?_⟩
        refine jx_ld (pc' := 53) (l' := jSto1 L 1 (.int (i32 (r10)))) (st' := []) rfl rfl ?_
        obtain ⟨L13, eL13⟩ : ∃ q, q = jSto1 L 1 (.int (i32 (r10))) := ⟨_, rfl⟩
        rw [← eL13]
        have gL13_0 : jGet L13 0 = some (.ref 66) := eL13 ▸ jg_ne (by decide) gL_0 rfl
        have gL13_1 : jGet L13 1 = some (.int (i32 (r10))) := eL13 ▸ jg_eq
        refine jx_ld (pc' := 54) (l' := L13) (st' := [.int (i32 (r10))]) rfl (jl_iloadn gL13_1) ?_
        refine jx_if_ne (pc' := 57) (tg := 88) rfl rfl rfl (by omega) (by omega) (fun h14 => ?_) (fun h14 => ?_)
        · have _q := h14
          refine jx_ld (pc' := 89) (l' := L13) (st' := [.int (i32 (r10))]) rfl (jl_iloadn gL13_1) ?_
          refine jx_st (pc' := 92) (as := [.int (i32 (r10))]) (st := []) rfl rfl ⟨rfl, Nat.le_of_ble_eq_true rfl⟩ rfl rfl rfl (c_isSmall (dd := d) (hd := by omega) (v := r10)   (h_v := by omega)  ) (fun o V' hq => ?_)
          obtain ⟨r15, rfl, rfl, b16, p17⟩ := hq
          refine .inr ⟨_, rfl, ?_⟩
          refine jx_if_eq (pc' := 95) (tg := 102) rfl rfl rfl (by omega) (by omega) (fun h18 => ?_) (fun h18 => ?_)
          · have _q := h18
            refine jx_ld (pc' := 103) (l' := L13) (st' := [.int (i32 (r10))]) rfl (jl_iloadn gL13_1) ?_
            refine jx_st (pc' := 106) (as := [.int (i32 (r10))]) (st := []) rfl rfl ⟨rfl, Nat.le_of_ble_eq_true rfl⟩ rfl rfl rfl (c_isBig (dd := d) (hd := by omega) (v := r10)   (h_v := by omega)  ) (fun o V' hq => ?_)
            obtain ⟨r19, rfl, rfl, b20, p21⟩ := hq
            refine .inr ⟨_, rfl, ?_⟩
            refine jx_if_eq (pc' := 109) (tg := 116) rfl rfl rfl (by omega) (by omega) (fun h22 => ?_) (fun h22 => ?_)
            · have _q := h22
              refine jx_ld (pc' := 117) (l' := L13) (st' := [.int (i32 (r10))]) rfl (jl_iloadn gL13_1) ?_
              refine jx_st (pc' := 120) (as := [.int (i32 (r10))]) (st := []) rfl rfl ⟨rfl, Nat.le_of_ble_eq_true rfl⟩ rfl rfl rfl (c_isDigit (dd := d) (hd := by omega) (v := r10)   (h_v := by omega)  ) (fun o V' hq => ?_)
              obtain ⟨r23, rfl, rfl, b24, p25⟩ := hq
              refine .inr ⟨_, rfl, ?_⟩
              refine jx_if_eq (pc' := 123) (tg := 130) rfl rfl rfl (by omega) (by omega) (fun h26 => ?_) (fun h26 => ?_)
              · have _q := h26
                refine jx_ld (pc' := 131) (l' := L13) (st' := [.ref 66]) rfl (jl_aloadn gL13_0) ?_
                refine jx_ld (pc' := 132) (l' := L13) (st' := [.int (i32 (r10)), .ref 66]) rfl (jl_iloadn gL13_1) ?_
                refine jx_vr (pc' := 135) (as := [.int (i32 (r10))]) (st := []) rfl rfl rfl rfl ⟨rfl, rfl, Nat.le_of_ble_eq_true rfl⟩ rfl rfl (c_signToken (dd := d) (hd := by omega) (hW := hW8) (c := r10) (ln := ln) (e_ln := show (uG Gx 12 ((at1 - A 2 (ln).toNat))) 9 = ln from ((hFx.1 9 rfl).trans (e_ln))) (le := le) (e_le := show Ax 4 (ln).toNat = le from (congrFun (hFx.2 4 rfl) _).trans (e_le)) (at0 := at1) (e_at0 := show (uG Gx 12 ((at1 - A 2 (ln).toNat))) 10 = at1 from (ex_at1))  (h_c := by omega)  (p_0 := by omega) (p_1 := by omega)) (fun o V' hq => ?_)
                obtain ⟨G27, A28, at2_29, tk2_30, rfl, rfl, hW31, hF32, e33, e34, p35⟩ := hq
                have hF36 := Fr_tr hF9 hF32 (Fr_sub (by decide)) (Fr_sub (by decide))
                have bat2_29 : (0 : Int) ≤ at2_29 ∧ at2_29 ≤ 3002 := e33 ▸ hW31.1 10
                have btk2_30 : (0 : Int) ≤ tk2_30 ∧ tk2_30 ≤ 5 := e34 ▸ hW31.1 11
                refine .inl ⟨rfl, ?_⟩
                refine jx_rt (v := none) rfl rfl rfl rfl rfl rfl ?_
                exact ⟨_, _, at2_29, tk2_30, rfl, rfl, hW31, hF36, (e33), (e34), by omega⟩
              · have _q := h26
                refine jx_ld (pc' := 124) (l' := L13) (st' := [.ref 66]) rfl (jl_aloadn gL13_0) ?_
                refine jx_vr (pc' := 127) (as := []) (st := []) rfl rfl rfl rfl ⟨rfl, rfl, Nat.le_of_ble_eq_true rfl⟩ rfl rfl (c_numberToken (dd := d) (hd := by omega) (hW := hW8)  (ln := ln) (e_ln := show (uG Gx 12 ((at1 - A 2 (ln).toNat))) 9 = ln from ((hFx.1 9 rfl).trans (e_ln))) (le := le) (e_le := show Ax 4 (ln).toNat = le from (congrFun (hFx.2 4 rfl) _).trans (e_le)) (at0 := at1) (e_at0 := show (uG Gx 12 ((at1 - A 2 (ln).toNat))) 10 = at1 from (ex_at1)) (tx := A 0 (at1).toNat) (e_tx := show Ax 0 (at1).toNat = A 0 (at1).toNat from (congrFun (hFx.2 0 rfl) _))    (p_0 := by omega) (p_1 := by omega)) (fun o V' hq => ?_)
                obtain ⟨G37, A38, at2_39, tk2_40, rfl, rfl, hW41, hF42, e43, e44, p45⟩ := hq
                have hF46 := Fr_tr hF9 hF42 (Fr_sub (by decide)) (Fr_sub (by decide))
                have bat2_39 : (0 : Int) ≤ at2_39 ∧ at2_39 ≤ 3002 := e43 ▸ hW41.1 10
                have btk2_40 : (0 : Int) ≤ tk2_40 ∧ tk2_40 ≤ 5 := e44 ▸ hW41.1 11
                refine .inl ⟨rfl, ?_⟩
                refine jx_go (tg := 135) rfl rfl ?_
                refine jx_rt (v := none) rfl rfl rfl rfl rfl rfl ?_
                exact ⟨_, _, at2_39, tk2_40, rfl, rfl, hW41, hF46, (e43), (e44), by omega⟩
            · have _q := h22
              refine jx_ld (pc' := 110) (l' := L13) (st' := [.ref 66]) rfl (jl_aloadn gL13_0) ?_
              refine jx_vr (pc' := 113) (as := []) (st := []) rfl rfl rfl rfl ⟨rfl, rfl, Nat.le_of_ble_eq_true rfl⟩ rfl rfl (c_keyToken (dd := d) (hd := by omega) (hW := hW8)  (ln := ln) (e_ln := show (uG Gx 12 ((at1 - A 2 (ln).toNat))) 9 = ln from ((hFx.1 9 rfl).trans (e_ln))) (le := le) (e_le := show Ax 4 (ln).toNat = le from (congrFun (hFx.2 4 rfl) _).trans (e_le)) (at0 := at1) (e_at0 := show (uG Gx 12 ((at1 - A 2 (ln).toNat))) 10 = at1 from (ex_at1)) (tx := A 0 (at1).toNat) (e_tx := show Ax 0 (at1).toNat = A 0 (at1).toNat from (congrFun (hFx.2 0 rfl) _))    (p_0 := by omega) (p_1 := by omega)) (fun o V' hq => ?_)
              obtain ⟨G47, A48, at2_49, tk2_50, rfl, rfl, hW51, hF52, e53, e54, p55⟩ := hq
              have hF56 := Fr_tr hF9 hF52 (Fr_sub (by decide)) (Fr_sub (by decide))
              have bat2_49 : (0 : Int) ≤ at2_49 ∧ at2_49 ≤ 3002 := e53 ▸ hW51.1 10
              have btk2_50 : (0 : Int) ≤ tk2_50 ∧ tk2_50 ≤ 5 := e54 ▸ hW51.1 11
              refine .inl ⟨rfl, ?_⟩
              refine jx_go (tg := 135) rfl rfl ?_
              refine jx_rt (v := none) rfl rfl rfl rfl rfl rfl ?_
              exact ⟨_, _, at2_49, tk2_50, rfl, rfl, hW51, hF56, (e53), (e54), by omega⟩
          · have _q := h18
            refine jx_ld (pc' := 96) (l' := L13) (st' := [.ref 66]) rfl (jl_aloadn gL13_0) ?_
            refine jx_vr (pc' := 99) (as := []) (st := []) rfl rfl rfl rfl ⟨rfl, rfl, Nat.le_of_ble_eq_true rfl⟩ rfl rfl (c_nameToken (dd := d) (hd := by omega) (hW := hW8)  (ln := ln) (e_ln := show (uG Gx 12 ((at1 - A 2 (ln).toNat))) 9 = ln from ((hFx.1 9 rfl).trans (e_ln))) (le := le) (e_le := show Ax 4 (ln).toNat = le from (congrFun (hFx.2 4 rfl) _).trans (e_le)) (at0 := at1) (e_at0 := show (uG Gx 12 ((at1 - A 2 (ln).toNat))) 10 = at1 from (ex_at1)) (tx := A 0 (at1).toNat) (e_tx := show Ax 0 (at1).toNat = A 0 (at1).toNat from (congrFun (hFx.2 0 rfl) _))    (p_0 := by omega) (p_1 := by omega)) (fun o V' hq => ?_)
            obtain ⟨G57, A58, at2_59, tk2_60, rfl, rfl, hW61, hF62, e63, e64, p65⟩ := hq
            have hF66 := Fr_tr hF9 hF62 (Fr_sub (by decide)) (Fr_sub (by decide))
            have bat2_59 : (0 : Int) ≤ at2_59 ∧ at2_59 ≤ 3002 := e63 ▸ hW61.1 10
            have btk2_60 : (0 : Int) ≤ tk2_60 ∧ tk2_60 ≤ 5 := e64 ▸ hW61.1 11
            refine .inl ⟨rfl, ?_⟩
            refine jx_go (tg := 135) rfl rfl ?_
            refine jx_rt (v := none) rfl rfl rfl rfl rfl rfl ?_
            exact ⟨_, _, at2_59, tk2_60, rfl, rfl, hW61, hF66, (e63), (e64), by omega⟩
        · have _q := h14
          refine jx_ld (pc' := 58) (l' := L13) (st' := [.ref 66]) rfl (jl_aloadn gL13_0) ?_
          refine jx_ar (pc' := 59) (st' := [.int (i32 (0)), .ref 66]) rfl rfl rfl rfl ?_
          refine jr_put (pc' := 62) (i := 11) (z := 0) rfl rfl (by decide) rfl rfl rfl rfl rfl rfl ?_
          have hW67 : Wk (uG (uG Gx 12 ((at1 - A 2 (ln).toNat))) 11 (0)) Ax := Wk_g hW8 (show (0 : Int) ≤ 0 by omega) (show 0 ≤ (5 : Int) by omega)
          have hF68 := Fr_g (z := 0) (i := 11) hF9 (by decide)
          refine jx_ld (pc' := 63) (l' := L13) (st' := [.ref 66]) rfl (jl_aloadn gL13_0) ?_
          refine jx_ld (pc' := 64) (l' := L13) (st' := [.ref 66, .ref 66]) rfl (jl_aloadn gL13_0) ?_
          refine jr_get (pc' := 67) (i := 7) (v := .ref 71) rfl rfl (by decide) rfl rfl ?_
          refine jx_ld (pc' := 68) (l' := L13) (st' := [.ref 66, .ref 71, .ref 66]) rfl (jl_aloadn gL13_0) ?_
          refine jr_get (pc' := 71) (i := 9) (v := .int (i32 (ln))) rfl rfl (by decide) (rFv_eq (by decide) (show (uG (uG Gx 12 ((at1 - A 2 (ln).toNat))) 11 (0)) 9 = ln from ((hFx.1 9 rfl).trans (e_ln)))) rfl ?_
          refine jr_ldv (pc' := 72) (i := 4) (m := 3001) (z := ln) (y := le) rfl (by decide) rfl (by decide) (by omega) (by omega) rfl (show Ax 4 (ln).toNat = le from (congrFun (hFx.2 4 rfl) _).trans (e_le)) ?_
          refine jx_ld (pc' := 73) (l' := L13) (st' := [.ref 66, .int (i32 (le)), .ref 66]) rfl (jl_aloadn gL13_0) ?_
          refine jr_get (pc' := 76) (i := 5) (v := .ref 69) rfl rfl (by decide) rfl rfl ?_
          refine jx_ld (pc' := 77) (l' := L13) (st' := [.ref 66, .ref 69, .int (i32 (le)), .ref 66]) rfl (jl_aloadn gL13_0) ?_
          refine jr_get (pc' := 80) (i := 9) (v := .int (i32 (ln))) rfl rfl (by decide) (rFv_eq (by decide) (show (uG (uG Gx 12 ((at1 - A 2 (ln).toNat))) 11 (0)) 9 = ln from ((hFx.1 9 rfl).trans (e_ln)))) rfl ?_
          refine jr_ldv (pc' := 81) (i := 2) (m := 3001) (z := ln) (y := A 2 (ln).toNat) rfl (by decide) rfl (by decide) (by omega) (by omega) rfl (show Ax 2 (ln).toNat = A 2 (ln).toNat from (congrFun (hFx.2 2 rfl) _)) ?_
          refine jx_sub (pc' := 82) rfl rfl ?_
          refine jr_put (pc' := 85) (i := 12) (z := (le - A 2 (ln).toNat)) rfl rfl (by decide) rfl rfl rfl rfl rfl rfl ?_
          have hW69 : Wk (uG (uG (uG Gx 12 ((at1 - A 2 (ln).toNat))) 11 (0)) 12 ((le - A 2 (ln).toNat))) Ax := Wk_g hW67 (show (-3000 : Int) ≤ (le - A 2 (ln).toNat) by omega) (show (le - A 2 (ln).toNat) ≤ (3002 : Int) by omega)
          have hF70 := Fr_g (z := (le - A 2 (ln).toNat)) (i := 12) hF68 (by decide)
          refine jx_go (tg := 135) rfl rfl ?_
          refine jx_rt (v := none) rfl rfl rfl rfl rfl rfl ?_
          exact ⟨_, _, at1, 0, rfl, rfl, hW69, hF70, (ex_at1), rfl, by omega⟩
      · have _q := h6
        refine jx_ld (pc' := 14) (l' := L) (st' := [.ref 66]) rfl (jl_aloadn gL_0) ?_
        refine jx_ar (pc' := 15) (st' := [.ref 66, .ref 66]) rfl rfl rfl rfl ?_
        refine jr_get (pc' := 18) (i := 10) (v := .int (i32 (at1))) rfl rfl (by decide) (rFv_eq (by decide) (show Gx 10 = at1 from (ex_at1))) rfl ?_
        refine jx_ar (pc' := 19) (st' := [.int (i32 (1)), .int (i32 (at1)), .ref 66]) rfl rfl rfl rfl ?_
        refine jx_add (pc' := 20) rfl rfl ?_
        refine jr_put (pc' := 23) (i := 10) (z := (at1 + 1)) rfl rfl (by decide) rfl rfl rfl rfl rfl rfl ?_
        have hW71 : Wk (uG Gx 10 ((at1 + 1))) Ax := Wk_g hWx (show (0 : Int) ≤ (at1 + 1) by omega) (show (at1 + 1) ≤ (3002 : Int) by omega)
        have hF72 := Fr_g (z := (at1 + 1)) (i := 10) hFx (by decide)
        refine jx_go (tg := 0) rfl rfl ?_
        exact ih _ (by omega) L (uG Gx 10 ((at1 + 1))) Ax ((at1 + 1)) rfl gL_0 hW71 hF72 (rfl) (by omega) (by omega)
  exact loop1 _ [(0, .ref 66)] G A (at0) rfl rfl hW hF0 ((e_at0)) (by omega) (by omega)
