set_option maxRecDepth 20000 in
set_option maxHeartbeats 4000000 in
theorem c_isTaken_at_5 {X : jX} {d : Nat} {c0 c1 : jC} {G : Nat → Int} {A : Nat → Nat → Int} {T : jH} {nm : Int64} {sy : Int} (hd : 1 ≤ d + 1) (hW : Wk G A) (e_sy : G 19 = sy) : ∀ (m : Nat) (L : jL) (tkn s : Int), (sy - s).toNat = m → jGet L 0 = some (.ref 66) → jGet L 1 = some (.long (nm)) → jGet L 3 = some (.int (i32 tkn)) → jGet L 4 = some (.int (i32 s)) → ((-2147483648 : Int) ≤ tkn ∧ tkn ≤ 2147483647) → ((-2147483648 : Int) ≤ s ∧ s ≤ 2147483647) → (0 ≤ tkn ∧ tkn ≤ 1) → (0 ≤ s ∧ s ≤ sy) → wj X d jm307 (5, L, [], rV c0 c1 G A T) (fun o V_q => ∃ (r : Int), V_q = rV c0 c1 G A T ∧ o = .inl (some (.int (i32 r))) ∧ ((0 : Int) ≤ r ∧ r ≤ 1) ∧ True) := by
  have b_sy : (0 : Int) ≤ sy ∧ sy ≤ 202 := e_sy ▸ hW.1 19
  intro m
  induction m using Nat.strongRecOn with
  | ind m ih5 =>
    intro L tkn s hm gL_0 gL_1 gL_3 gL_4 rx_tkn rx_s iv_0 iv_1
    refine jx_ld (pc_q := 7) (l_q := L) (st_q := [.int (i32 (s))]) rfl (jl_iload gL_4) ?_
    refine jx_ld (pc_q := 8) (l_q := L) (st_q := [.ref 66, .int (i32 (s))]) rfl (jl_aloadn gL_0) ?_
    refine jr_get (pc_q := 11) (i := 19) (v := .int (i32 (sy))) rfl rfl (by decide) (rFv_eq (by decide) (show G 19 = sy from (e_sy))) rfl ?_
    refine jx_icmp_ge (pc_q := 14) (tg := 79) rfl rfl rfl (Int.le_trans (by decide : (-2147483648 : Int) ≤ -2147483648) rx_s.1) (Int.le_trans rx_s.2 (by decide : (2147483647 : Int) ≤ 2147483647)) (Int.le_trans (by decide : (-2147483648 : Int) ≤ 0) b_sy.1) (Int.le_trans b_sy.2 (by decide : (202 : Int) ≤ 2147483647)) (fun h1 => ?_) (fun h1 => ?_)
    · have _q := h1
      refine jx_ld (pc_q := 80) (l_q := L) (st_q := [.int (i32 (tkn))]) rfl (jl_iloadn gL_3) ?_
      refine jx_rt (v := some (.int (i32 (tkn)))) rfl rfl rfl rfl rfl (by first | rfl | exact jRet_b (by omega)) ?_
      exact ⟨_, rfl, rfl, by omega, trivial⟩
    · have _q := h1
      refine jx_ld (pc_q := 15) (l_q := L) (st_q := [.ref 66]) rfl (jl_aloadn gL_0) ?_
      refine jr_get (pc_q := 18) (i := 21) (v := .ref 74) rfl rfl (by decide) rfl rfl ?_
      refine jx_ld (pc_q := 20) (l_q := L) (st_q := [.int (i32 (s)), .ref 74]) rfl (jl_iload gL_4) ?_
      have b2 : (0 : Int) ≤ A 7 (s).toNat ∧ A 7 (s).toNat ≤ 14 := hW.2 7 _
      refine jr_ldv (pc_q := 21) (i := 7) (m := 260) (z := s) (y := A 7 (s).toNat) rfl (by decide) rfl (by decide) (by omega) (by omega) rfl (show A 7 (s).toNat = A 7 (s).toNat from rfl) ?_
      refine jx_ld (pc_q := 23) (l_q := jSto1 L 5 (.int (i32 (A 7 (s).toNat)))) (st_q := []) rfl rfl ?_
      obtain ⟨L3, eL3⟩ : ∃ q, q = jSto1 L 5 (.int (i32 (A 7 (s).toNat))) := ⟨_, rfl⟩
      rw [← eL3]
      have gL3_0 : jGet L3 0 = some (.ref 66) := eL3 ▸ jg_ne (by decide) gL_0 rfl
      have gL3_1 : jGet L3 1 = some (.long (nm)) := eL3 ▸ jg_nel (by decide) gL_1 (by decide)
      have gL3_3 : jGet L3 3 = some (.int (i32 (tkn))) := eL3 ▸ jg_ne (by decide) gL_3 rfl
      have gL3_4 : jGet L3 4 = some (.int (i32 (s))) := eL3 ▸ jg_ne (by decide) gL_4 rfl
      have gL3_5 : jGet L3 5 = some (.int (i32 (A 7 (s).toNat))) := eL3 ▸ jg_eq
      refine jx_ld (pc_q := 24) (l_q := L3) (st_q := [.int (i32 (tkn))]) rfl (jl_iloadn gL3_3) ?_
      refine jx_if_ne (pc_q := 27) (tg := 67) rfl rfl rfl (Int.le_trans (by decide : (-2147483648 : Int) ≤ -2147483648) rx_tkn.1) (Int.le_trans rx_tkn.2 (by decide : (2147483647 : Int) ≤ 2147483647)) (fun h4 => ?_) (fun h4 => ?_)
      · have _q := h4
        refine jx_ar (pc_q := 68) (st_q := [.int (i32 (1))]) rfl rfl rfl rfl ?_
        refine jx_go (tg := 72) rfl rfl ?_
        refine jx_ld (pc_q := 73) (l_q := jSto1 L3 3 (.int (i32 (1)))) (st_q := []) rfl rfl ?_
        obtain ⟨L5, eL5⟩ : ∃ q, q = jSto1 L3 3 (.int (i32 (1))) := ⟨_, rfl⟩
        rw [← eL5]
        have gL5_0 : jGet L5 0 = some (.ref 66) := eL5 ▸ jg_ne (by decide) gL3_0 rfl
        have gL5_1 : jGet L5 1 = some (.long (nm)) := eL5 ▸ jg_nel (by decide) gL3_1 (by decide)
        have gL5_4 : jGet L5 4 = some (.int (i32 (s))) := eL5 ▸ jg_ne (by decide) gL3_4 rfl
        have gL5_5 : jGet L5 5 = some (.int (i32 (A 7 (s).toNat))) := eL5 ▸ jg_ne (by decide) gL3_5 rfl
        have gL5_3 : jGet L5 3 = some (.int (i32 (1))) := eL5 ▸ jg_eq
        refine jx_inc (pc_q := 76) (l_q := jSto1 L5 4 (.int (i32 ((s + (1)))))) (x := s) rfl gL5_4 (by decide) rfl rfl ?_
        obtain ⟨L6, eL6⟩ : ∃ q, q = jSto1 L5 4 (.int (i32 ((s + (1))))) := ⟨_, rfl⟩
        rw [← eL6]
        have gL6_0 : jGet L6 0 = some (.ref 66) := eL6 ▸ jg_ne (by decide) gL5_0 rfl
        have gL6_1 : jGet L6 1 = some (.long (nm)) := eL6 ▸ jg_nel (by decide) gL5_1 (by decide)
        have gL6_5 : jGet L6 5 = some (.int (i32 (A 7 (s).toNat))) := eL6 ▸ jg_ne (by decide) gL5_5 rfl
        have gL6_3 : jGet L6 3 = some (.int (i32 (1))) := eL6 ▸ jg_ne (by decide) gL5_3 rfl
        have gL6_4 : jGet L6 4 = some (.int (i32 ((s + (1))))) := eL6 ▸ jg_eq
        refine jx_go (tg := 5) rfl rfl ?_
        exact ih5 _ (by omega) L6 (1) ((s + (1))) rfl gL6_0 gL6_1 gL6_3 gL6_4 (by omega) (by omega) (by omega) (by omega)
      · have _q := h4
        refine jx_ld (pc_q := 28) (l_q := L3) (st_q := [.ref 66]) rfl (jl_aloadn gL3_0) ?_
        refine jr_get (pc_q := 31) (i := 20) (v := .ref 73) rfl rfl (by decide) rfl rfl ?_
        refine jx_ld (pc_q := 33) (l_q := L3) (st_q := [.int (i32 (s)), .ref 73]) rfl (jl_iload gL3_4) ?_
        refine jr_llv (pc_q := 34) (i := 6) (m := 260) (z := s) rfl (by decide) rfl (by decide) (by omega) (by omega) rfl (fun y7 => ?_)
        refine jx_ld (pc_q := 35) (l_q := L3) (st_q := [.long (nm), .long (y7)]) rfl (jl_lloadn gL3_1) ?_
        refine jx_lcmp (pc_q := 36) rfl rfl (fun r8 hr8 => ?_)
        refine jx_if_ne (pc_q := 39) (tg := 71) rfl rfl rfl (by omega) (by omega) (fun h9 => ?_) (fun h9 => ?_)
        · have _q := h9
          refine jx_ar (pc_q := 72) (st_q := [.int (i32 (0))]) rfl rfl rfl rfl ?_
          refine jx_ld (pc_q := 73) (l_q := jSto1 L3 3 (.int (i32 (0)))) (st_q := []) rfl rfl ?_
          obtain ⟨L10, eL10⟩ : ∃ q, q = jSto1 L3 3 (.int (i32 (0))) := ⟨_, rfl⟩
          rw [← eL10]
          have gL10_0 : jGet L10 0 = some (.ref 66) := eL10 ▸ jg_ne (by decide) gL3_0 rfl
          have gL10_1 : jGet L10 1 = some (.long (nm)) := eL10 ▸ jg_nel (by decide) gL3_1 (by decide)
          have gL10_4 : jGet L10 4 = some (.int (i32 (s))) := eL10 ▸ jg_ne (by decide) gL3_4 rfl
          have gL10_5 : jGet L10 5 = some (.int (i32 (A 7 (s).toNat))) := eL10 ▸ jg_ne (by decide) gL3_5 rfl
          have gL10_3 : jGet L10 3 = some (.int (i32 (0))) := eL10 ▸ jg_eq
          refine jx_inc (pc_q := 76) (l_q := jSto1 L10 4 (.int (i32 ((s + (1)))))) (x := s) rfl gL10_4 (by decide) rfl rfl ?_
          obtain ⟨L11, eL11⟩ : ∃ q, q = jSto1 L10 4 (.int (i32 ((s + (1))))) := ⟨_, rfl⟩
          rw [← eL11]
          have gL11_0 : jGet L11 0 = some (.ref 66) := eL11 ▸ jg_ne (by decide) gL10_0 rfl
          have gL11_1 : jGet L11 1 = some (.long (nm)) := eL11 ▸ jg_nel (by decide) gL10_1 (by decide)
          have gL11_5 : jGet L11 5 = some (.int (i32 (A 7 (s).toNat))) := eL11 ▸ jg_ne (by decide) gL10_5 rfl
          have gL11_3 : jGet L11 3 = some (.int (i32 (0))) := eL11 ▸ jg_ne (by decide) gL10_3 rfl
          have gL11_4 : jGet L11 4 = some (.int (i32 ((s + (1))))) := eL11 ▸ jg_eq
          refine jx_go (tg := 5) rfl rfl ?_
          exact ih5 _ (by omega) L11 (0) ((s + (1))) rfl gL11_0 gL11_1 gL11_3 gL11_4 (by omega) (by omega) (by omega) (by omega)
        · have _q := h9
          refine jx_ld (pc_q := 41) (l_q := L3) (st_q := [.int (i32 (A 7 (s).toNat))]) rfl (jl_iload gL3_5) ?_
          refine jx_ar (pc_q := 43) (st_q := [.int (i32 (14)), .int (i32 (A 7 (s).toNat))]) rfl rfl rfl rfl ?_
          refine jx_icmp_eq (pc_q := 46) (tg := 67) rfl rfl rfl (Int.le_trans (by decide : (-2147483648 : Int) ≤ 0) b2.1) (Int.le_trans b2.2 (by decide : (14 : Int) ≤ 2147483647)) (by decide) (by decide) (fun h12 => ?_) (fun h12 => ?_)
          · have _q := h12
            refine jx_ar (pc_q := 68) (st_q := [.int (i32 (1))]) rfl rfl rfl rfl ?_
            refine jx_go (tg := 72) rfl rfl ?_
            refine jx_ld (pc_q := 73) (l_q := jSto1 L3 3 (.int (i32 (1)))) (st_q := []) rfl rfl ?_
            obtain ⟨L13, eL13⟩ : ∃ q, q = jSto1 L3 3 (.int (i32 (1))) := ⟨_, rfl⟩
            rw [← eL13]
            have gL13_0 : jGet L13 0 = some (.ref 66) := eL13 ▸ jg_ne (by decide) gL3_0 rfl
            have gL13_1 : jGet L13 1 = some (.long (nm)) := eL13 ▸ jg_nel (by decide) gL3_1 (by decide)
            have gL13_4 : jGet L13 4 = some (.int (i32 (s))) := eL13 ▸ jg_ne (by decide) gL3_4 rfl
            have gL13_5 : jGet L13 5 = some (.int (i32 (A 7 (s).toNat))) := eL13 ▸ jg_ne (by decide) gL3_5 rfl
            have gL13_3 : jGet L13 3 = some (.int (i32 (1))) := eL13 ▸ jg_eq
            refine jx_inc (pc_q := 76) (l_q := jSto1 L13 4 (.int (i32 ((s + (1)))))) (x := s) rfl gL13_4 (by decide) rfl rfl ?_
            obtain ⟨L14, eL14⟩ : ∃ q, q = jSto1 L13 4 (.int (i32 ((s + (1))))) := ⟨_, rfl⟩
            rw [← eL14]
            have gL14_0 : jGet L14 0 = some (.ref 66) := eL14 ▸ jg_ne (by decide) gL13_0 rfl
            have gL14_1 : jGet L14 1 = some (.long (nm)) := eL14 ▸ jg_nel (by decide) gL13_1 (by decide)
            have gL14_5 : jGet L14 5 = some (.int (i32 (A 7 (s).toNat))) := eL14 ▸ jg_ne (by decide) gL13_5 rfl
            have gL14_3 : jGet L14 3 = some (.int (i32 (1))) := eL14 ▸ jg_ne (by decide) gL13_3 rfl
            have gL14_4 : jGet L14 4 = some (.int (i32 ((s + (1))))) := eL14 ▸ jg_eq
            refine jx_go (tg := 5) rfl rfl ?_
            exact ih5 _ (by omega) L14 (1) ((s + (1))) rfl gL14_0 gL14_1 gL14_3 gL14_4 (by omega) (by omega) (by omega) (by omega)
          · have _q := h12
            refine jx_ld (pc_q := 48) (l_q := L3) (st_q := [.int (i32 (A 7 (s).toNat))]) rfl (jl_iload gL3_5) ?_
            refine jx_ar (pc_q := 50) (st_q := [.int (i32 (11)), .int (i32 (A 7 (s).toNat))]) rfl rfl rfl rfl ?_
            refine jx_icmp_eq (pc_q := 53) (tg := 67) rfl rfl rfl (Int.le_trans (by decide : (-2147483648 : Int) ≤ 0) b2.1) (Int.le_trans b2.2 (by decide : (14 : Int) ≤ 2147483647)) (by decide) (by decide) (fun h15 => ?_) (fun h15 => ?_)
            · have _q := h15
              refine jx_ar (pc_q := 68) (st_q := [.int (i32 (1))]) rfl rfl rfl rfl ?_
              refine jx_go (tg := 72) rfl rfl ?_
              refine jx_ld (pc_q := 73) (l_q := jSto1 L3 3 (.int (i32 (1)))) (st_q := []) rfl rfl ?_
              obtain ⟨L16, eL16⟩ : ∃ q, q = jSto1 L3 3 (.int (i32 (1))) := ⟨_, rfl⟩
              rw [← eL16]
              have gL16_0 : jGet L16 0 = some (.ref 66) := eL16 ▸ jg_ne (by decide) gL3_0 rfl
              have gL16_1 : jGet L16 1 = some (.long (nm)) := eL16 ▸ jg_nel (by decide) gL3_1 (by decide)
              have gL16_4 : jGet L16 4 = some (.int (i32 (s))) := eL16 ▸ jg_ne (by decide) gL3_4 rfl
              have gL16_5 : jGet L16 5 = some (.int (i32 (A 7 (s).toNat))) := eL16 ▸ jg_ne (by decide) gL3_5 rfl
              have gL16_3 : jGet L16 3 = some (.int (i32 (1))) := eL16 ▸ jg_eq
              refine jx_inc (pc_q := 76) (l_q := jSto1 L16 4 (.int (i32 ((s + (1)))))) (x := s) rfl gL16_4 (by decide) rfl rfl ?_
              obtain ⟨L17, eL17⟩ : ∃ q, q = jSto1 L16 4 (.int (i32 ((s + (1))))) := ⟨_, rfl⟩
              rw [← eL17]
              have gL17_0 : jGet L17 0 = some (.ref 66) := eL17 ▸ jg_ne (by decide) gL16_0 rfl
              have gL17_1 : jGet L17 1 = some (.long (nm)) := eL17 ▸ jg_nel (by decide) gL16_1 (by decide)
              have gL17_5 : jGet L17 5 = some (.int (i32 (A 7 (s).toNat))) := eL17 ▸ jg_ne (by decide) gL16_5 rfl
              have gL17_3 : jGet L17 3 = some (.int (i32 (1))) := eL17 ▸ jg_ne (by decide) gL16_3 rfl
              have gL17_4 : jGet L17 4 = some (.int (i32 ((s + (1))))) := eL17 ▸ jg_eq
              refine jx_go (tg := 5) rfl rfl ?_
              exact ih5 _ (by omega) L17 (1) ((s + (1))) rfl gL17_0 gL17_1 gL17_3 gL17_4 (by omega) (by omega) (by omega) (by omega)
            · have _q := h15
              refine jx_ld (pc_q := 55) (l_q := L3) (st_q := [.int (i32 (A 7 (s).toNat))]) rfl (jl_iload gL3_5) ?_
              refine jx_ar (pc_q := 57) (st_q := [.int (i32 (12)), .int (i32 (A 7 (s).toNat))]) rfl rfl rfl rfl ?_
              refine jx_icmp_eq (pc_q := 60) (tg := 67) rfl rfl rfl (Int.le_trans (by decide : (-2147483648 : Int) ≤ 0) b2.1) (Int.le_trans b2.2 (by decide : (14 : Int) ≤ 2147483647)) (by decide) (by decide) (fun h18 => ?_) (fun h18 => ?_)
              · have _q := h18
                refine jx_ar (pc_q := 68) (st_q := [.int (i32 (1))]) rfl rfl rfl rfl ?_
                refine jx_go (tg := 72) rfl rfl ?_
                refine jx_ld (pc_q := 73) (l_q := jSto1 L3 3 (.int (i32 (1)))) (st_q := []) rfl rfl ?_
                obtain ⟨L19, eL19⟩ : ∃ q, q = jSto1 L3 3 (.int (i32 (1))) := ⟨_, rfl⟩
                rw [← eL19]
                have gL19_0 : jGet L19 0 = some (.ref 66) := eL19 ▸ jg_ne (by decide) gL3_0 rfl
                have gL19_1 : jGet L19 1 = some (.long (nm)) := eL19 ▸ jg_nel (by decide) gL3_1 (by decide)
                have gL19_4 : jGet L19 4 = some (.int (i32 (s))) := eL19 ▸ jg_ne (by decide) gL3_4 rfl
                have gL19_5 : jGet L19 5 = some (.int (i32 (A 7 (s).toNat))) := eL19 ▸ jg_ne (by decide) gL3_5 rfl
                have gL19_3 : jGet L19 3 = some (.int (i32 (1))) := eL19 ▸ jg_eq
                refine jx_inc (pc_q := 76) (l_q := jSto1 L19 4 (.int (i32 ((s + (1)))))) (x := s) rfl gL19_4 (by decide) rfl rfl ?_
                obtain ⟨L20, eL20⟩ : ∃ q, q = jSto1 L19 4 (.int (i32 ((s + (1))))) := ⟨_, rfl⟩
                rw [← eL20]
                have gL20_0 : jGet L20 0 = some (.ref 66) := eL20 ▸ jg_ne (by decide) gL19_0 rfl
                have gL20_1 : jGet L20 1 = some (.long (nm)) := eL20 ▸ jg_nel (by decide) gL19_1 (by decide)
                have gL20_5 : jGet L20 5 = some (.int (i32 (A 7 (s).toNat))) := eL20 ▸ jg_ne (by decide) gL19_5 rfl
                have gL20_3 : jGet L20 3 = some (.int (i32 (1))) := eL20 ▸ jg_ne (by decide) gL19_3 rfl
                have gL20_4 : jGet L20 4 = some (.int (i32 ((s + (1))))) := eL20 ▸ jg_eq
                refine jx_go (tg := 5) rfl rfl ?_
                exact ih5 _ (by omega) L20 (1) ((s + (1))) rfl gL20_0 gL20_1 gL20_3 gL20_4 (by omega) (by omega) (by omega) (by omega)
              · have _q := h18
                refine jx_ld (pc_q := 62) (l_q := L3) (st_q := [.int (i32 (A 7 (s).toNat))]) rfl (jl_iload gL3_5) ?_
                refine jx_ar (pc_q := 64) (st_q := [.int (i32 (13)), .int (i32 (A 7 (s).toNat))]) rfl rfl rfl rfl ?_
                refine jx_icmp_ne (pc_q := 67) (tg := 71) rfl rfl rfl (Int.le_trans (by decide : (-2147483648 : Int) ≤ 0) b2.1) (Int.le_trans b2.2 (by decide : (14 : Int) ≤ 2147483647)) (by decide) (by decide) (fun h21 => ?_) (fun h21 => ?_)
                · have _q := h21
                  refine jx_ar (pc_q := 72) (st_q := [.int (i32 (0))]) rfl rfl rfl rfl ?_
                  refine jx_ld (pc_q := 73) (l_q := jSto1 L3 3 (.int (i32 (0)))) (st_q := []) rfl rfl ?_
                  obtain ⟨L22, eL22⟩ : ∃ q, q = jSto1 L3 3 (.int (i32 (0))) := ⟨_, rfl⟩
                  rw [← eL22]
                  have gL22_0 : jGet L22 0 = some (.ref 66) := eL22 ▸ jg_ne (by decide) gL3_0 rfl
                  have gL22_1 : jGet L22 1 = some (.long (nm)) := eL22 ▸ jg_nel (by decide) gL3_1 (by decide)
                  have gL22_4 : jGet L22 4 = some (.int (i32 (s))) := eL22 ▸ jg_ne (by decide) gL3_4 rfl
                  have gL22_5 : jGet L22 5 = some (.int (i32 (A 7 (s).toNat))) := eL22 ▸ jg_ne (by decide) gL3_5 rfl
                  have gL22_3 : jGet L22 3 = some (.int (i32 (0))) := eL22 ▸ jg_eq
                  refine jx_inc (pc_q := 76) (l_q := jSto1 L22 4 (.int (i32 ((s + (1)))))) (x := s) rfl gL22_4 (by decide) rfl rfl ?_
                  obtain ⟨L23, eL23⟩ : ∃ q, q = jSto1 L22 4 (.int (i32 ((s + (1))))) := ⟨_, rfl⟩
                  rw [← eL23]
                  have gL23_0 : jGet L23 0 = some (.ref 66) := eL23 ▸ jg_ne (by decide) gL22_0 rfl
                  have gL23_1 : jGet L23 1 = some (.long (nm)) := eL23 ▸ jg_nel (by decide) gL22_1 (by decide)
                  have gL23_5 : jGet L23 5 = some (.int (i32 (A 7 (s).toNat))) := eL23 ▸ jg_ne (by decide) gL22_5 rfl
                  have gL23_3 : jGet L23 3 = some (.int (i32 (0))) := eL23 ▸ jg_ne (by decide) gL22_3 rfl
                  have gL23_4 : jGet L23 4 = some (.int (i32 ((s + (1))))) := eL23 ▸ jg_eq
                  refine jx_go (tg := 5) rfl rfl ?_
                  exact ih5 _ (by omega) L23 (0) ((s + (1))) rfl gL23_0 gL23_1 gL23_3 gL23_4 (by omega) (by omega) (by omega) (by omega)
                · have _q := h21
                  refine jx_ar (pc_q := 68) (st_q := [.int (i32 (1))]) rfl rfl rfl rfl ?_
                  refine jx_go (tg := 72) rfl rfl ?_
                  refine jx_ld (pc_q := 73) (l_q := jSto1 L3 3 (.int (i32 (1)))) (st_q := []) rfl rfl ?_
                  obtain ⟨L24, eL24⟩ : ∃ q, q = jSto1 L3 3 (.int (i32 (1))) := ⟨_, rfl⟩
                  rw [← eL24]
                  have gL24_0 : jGet L24 0 = some (.ref 66) := eL24 ▸ jg_ne (by decide) gL3_0 rfl
                  have gL24_1 : jGet L24 1 = some (.long (nm)) := eL24 ▸ jg_nel (by decide) gL3_1 (by decide)
                  have gL24_4 : jGet L24 4 = some (.int (i32 (s))) := eL24 ▸ jg_ne (by decide) gL3_4 rfl
                  have gL24_5 : jGet L24 5 = some (.int (i32 (A 7 (s).toNat))) := eL24 ▸ jg_ne (by decide) gL3_5 rfl
                  have gL24_3 : jGet L24 3 = some (.int (i32 (1))) := eL24 ▸ jg_eq
                  refine jx_inc (pc_q := 76) (l_q := jSto1 L24 4 (.int (i32 ((s + (1)))))) (x := s) rfl gL24_4 (by decide) rfl rfl ?_
                  obtain ⟨L25, eL25⟩ : ∃ q, q = jSto1 L24 4 (.int (i32 ((s + (1))))) := ⟨_, rfl⟩
                  rw [← eL25]
                  have gL25_0 : jGet L25 0 = some (.ref 66) := eL25 ▸ jg_ne (by decide) gL24_0 rfl
                  have gL25_1 : jGet L25 1 = some (.long (nm)) := eL25 ▸ jg_nel (by decide) gL24_1 (by decide)
                  have gL25_5 : jGet L25 5 = some (.int (i32 (A 7 (s).toNat))) := eL25 ▸ jg_ne (by decide) gL24_5 rfl
                  have gL25_3 : jGet L25 3 = some (.int (i32 (1))) := eL25 ▸ jg_ne (by decide) gL24_3 rfl
                  have gL25_4 : jGet L25 4 = some (.int (i32 ((s + (1))))) := eL25 ▸ jg_eq
                  refine jx_go (tg := 5) rfl rfl ?_
                  exact ih5 _ (by omega) L25 (1) ((s + (1))) rfl gL25_0 gL25_1 gL25_3 gL25_4 (by omega) (by omega) (by omega) (by omega)
set_option maxRecDepth 20000 in
set_option maxHeartbeats 4000000 in
theorem c_isTaken {X : jX} {dd : Nat} {c0 c1 : jC} {G : Nat → Int} {A : Nat → Nat → Int} {T : jH} {nm : Int64} {sy : Int} (hd : 1 ≤ dd) (hW : Wk G A) (e_sy : G 19 = sy) : wk X dd 307 [.ref 66, .long nm] (rV c0 c1 G A T) (fun o V_q => ∃ (r : Int), V_q = rV c0 c1 G A T ∧ o = .inl (some (.int (i32 r))) ∧ ((0 : Int) ≤ r ∧ r ≤ 1) ∧ True) := by
  obtain ⟨d, rfl⟩ : ∃ d, dd = d + 1 := ⟨dd - 1, by omega⟩
  refine wk_of (e := jm307) rfl (Nat.le_of_ble_eq_true rfl) ?_
  show wj X d jm307 (0, [(0, .ref 66), (1, .long (nm))], [], rV c0 c1 G A T) _
  have b_sy : (0 : Int) ≤ sy ∧ sy ≤ 202 := e_sy ▸ hW.1 19
  refine jx_ar (pc_q := 1) (st_q := [.int (i32 (0))]) rfl rfl rfl rfl ?_
  refine jx_ld (pc_q := 2) (l_q := jSto1 [(0, .ref 66), (1, .long (nm))] 3 (.int (i32 (0)))) (st_q := []) rfl rfl ?_
  obtain ⟨L26, eL26⟩ : ∃ q, q = jSto1 [(0, .ref 66), (1, .long (nm))] 3 (.int (i32 (0))) := ⟨_, rfl⟩
  rw [← eL26]
  have gL26_0 : jGet L26 0 = some (.ref 66) := eL26 ▸ jg_ne (by decide) (rfl : jGet [(0, .ref 66), (1, .long (nm))] 0 = some (.ref 66)) rfl
  have gL26_1 : jGet L26 1 = some (.long (nm)) := eL26 ▸ jg_nel (by decide) (rfl : jGet [(0, .ref 66), (1, .long (nm))] 1 = some (.long (nm))) (by decide)
  have gL26_3 : jGet L26 3 = some (.int (i32 (0))) := eL26 ▸ jg_eq
  refine jx_ar (pc_q := 3) (st_q := [.int (i32 (0))]) rfl rfl rfl rfl ?_
  refine jx_ld (pc_q := 5) (l_q := jSto1 L26 4 (.int (i32 (0)))) (st_q := []) rfl rfl ?_
  obtain ⟨L27, eL27⟩ : ∃ q, q = jSto1 L26 4 (.int (i32 (0))) := ⟨_, rfl⟩
  rw [← eL27]
  have gL27_0 : jGet L27 0 = some (.ref 66) := eL27 ▸ jg_ne (by decide) gL26_0 rfl
  have gL27_1 : jGet L27 1 = some (.long (nm)) := eL27 ▸ jg_nel (by decide) gL26_1 (by decide)
  have gL27_3 : jGet L27 3 = some (.int (i32 (0))) := eL27 ▸ jg_ne (by decide) gL26_3 rfl
  have gL27_4 : jGet L27 4 = some (.int (i32 (0))) := eL27 ▸ jg_eq
  exact c_isTaken_at_5 (X := X) (d := d) (c0 := c0) (c1 := c1) (G := G) (A := A) (T := T) (nm := nm) (sy := sy) (hd := hd) (hW := hW) (e_sy := e_sy) _ L27 (0) (0) rfl gL27_0 gL27_1 gL27_3 gL27_4 (by omega) (by omega) (by omega) (by omega)
set_option maxRecDepth 20000 in
set_option maxHeartbeats 4000000 in
theorem c_readParameter_at_177 {X : jX} {d : Nat} {c0 c1 : jC} {G : Nat → Int} {A : Nat → Nat → Int} {T : jH} {fr : Int} {ln le at0 fk tk0 sy na : Int} (hd : 8 ≤ d + 1) (hW : Wk G A) (e_ln : G 9 = ln) (e_le : A 4 (ln).toNat = le) (e_at0 : G 10 = at0) (e_fk : G 16 = fk) (e_tk0 : G 11 = tk0) (e_sy : G 19 = sy) (e_na : G 28 = na) (h_fr : (-2147483648 : Int) ≤ fr ∧ fr ≤ 2147483647) (p_0 : fk = 0) (p_1 : at0 ≤ le) (p_2 : 0 ≤ fr ∧ fr ≤ sy) (p_3 : sy ≤ na + 2) : ∀ (L : jL) (Gx : Nat → Int) (Ax : Nat → Nat → Int) (kd mn at1 tk1 fk1 : Int), jGet L 0 = some (.ref 66) → jGet L 1 = some (.int (i32 (fr))) → jGet L 2 = some (.int (i32 kd)) → jGet L 3 = some (.int (i32 mn)) → Wk Gx Ax → Fr [10, 11, 12, 13, 14, 16, 17, 18, 19, 28] [6, 7, 8, 9, 10, 11, 12] G A Gx Ax → Fx sr (sy) A Ax → Gx 10 = at1 → Gx 11 = tk1 → Gx 16 = fk1 → Gx 9 = ln → Gx 19 = sy → Gx 28 = na → ((-2147483648 : Int) ≤ kd ∧ kd ≤ 2147483647) → ((-2147483648 : Int) ≤ mn ∧ mn ≤ 2147483647) → (at0 ≤ at1) → (at1 ≤ le) → ((kd = 7 ∧ 1 ≤ mn ∧ mn ≤ 64) ∨ (5 ≤ kd ∧ kd ≤ 8 ∧ kd ≠ 7 ∧ mn = 1)) → wj X d jm309 (177, L, [], rV c0 c1 Gx Ax T) (fun o V_q => ∃ (G_q : Nat → Int) (A_q : Nat → Nat → Int) (at2 : Int) (fk2 : Int) (sy2 : Int) (na2 : Int), V_q = rV c0 c1 G_q A_q T ∧ o = .inl none ∧ Wk G_q A_q ∧ Fr [10, 11, 12, 13, 14, 16, 17, 18, 19, 28] [6, 7, 8, 9, 10, 11, 12] G A G_q A_q ∧ Fx sr (sy) A A_q ∧ G_q 10 = at2 ∧ G_q 16 = fk2 ∧ G_q 19 = sy2 ∧ G_q 28 = na2 ∧ (at0 ≤ at2) ∧ (at2 ≤ le) ∧ (sy ≤ sy2) ∧ (sy2 ≤ na2 + 2) ∧ (((1 ≤ fk2)) ∨ ((fk2 = 0) ∧ (sy2 = sy + 1) ∧ (MP A_q (sy))))) := by
  have hF0 : Fr [10, 11, 12, 13, 14, 16, 17, 18, 19, 28] [6, 7, 8, 9, 10, 11, 12] G A G A := Fr_rf
  have hS0 : Fx sr (sy) A A := Fx_rf
  have b_ln : (0 : Int) ≤ ln ∧ ln ≤ 3000 := e_ln ▸ hW.1 9
  have b_le : (0 : Int) ≤ le ∧ le ≤ 3000 := e_le ▸ hW.2 4 _
  have b_at0 : (0 : Int) ≤ at0 ∧ at0 ≤ 3002 := e_at0 ▸ hW.1 10
  have b_fk : (0 : Int) ≤ fk ∧ fk ≤ 6 := e_fk ▸ hW.1 16
  have b_tk0 : (0 : Int) ≤ tk0 ∧ tk0 ≤ 5 := e_tk0 ▸ hW.1 11
  have b_sy : (0 : Int) ≤ sy ∧ sy ≤ 202 := e_sy ▸ hW.1 19
  have b_na : (0 : Int) ≤ na ∧ na ≤ 200 := e_na ▸ hW.1 28
  intro L Gx Ax kd mn at1 tk1 fk1 gL_0 gL_1 gL_2 gL_3 hWx hFx hSx ex_at1 ex_tk1 ex_fk1 fx_9 fx_19 fx_28 rx_kd rx_mn iv_0 iv_1 iv_2
  have b_at1 : (0 : Int) ≤ at1 ∧ at1 ≤ 3002 := ex_at1 ▸ hWx.1 10
  have b_tk1 : (0 : Int) ≤ tk1 ∧ tk1 ≤ 5 := ex_tk1 ▸ hWx.1 11
  have b_fk1 : (0 : Int) ≤ fk1 ∧ fk1 ≤ 6 := ex_fk1 ▸ hWx.1 16
  refine jx_ld (pc_q := 178) (l_q := L) (st_q := [.ref 66]) rfl (jl_aloadn gL_0) ?_
  refine jx_ld (pc_q := 179) (l_q := L) (st_q := [.int (i32 (kd)), .ref 66]) rfl (jl_iloadn gL_2) ?_
  refine jx_ld (pc_q := 180) (l_q := L) (st_q := [.int (i32 (mn)), .int (i32 (kd)), .ref 66]) rfl (jl_iloadn gL_3) ?_
  refine jx_vr (pc_q := 183) (as := [.int (i32 (kd)), .int (i32 (mn))]) (st := []) rfl rfl rfl rfl ⟨rfl, rfl, Nat.le_of_ble_eq_true rfl⟩ rfl rfl (c_newName (dd := d) (hd := by omega) (hW := hWx) (kind := kd) (many := mn) (sy := sy) (e_sy := show Gx 19 = sy from (fx_19)) (na := na) (e_na := show Gx 28 = na from (fx_28)) (fk := fk1) (e_fk := show Gx 16 = fk1 from (ex_fk1))  (h_kind := ⟨(Int.le_trans (by decide : (-2147483648 : Int) ≤ -2147483648) rx_kd.1), (Int.le_trans rx_kd.2 (by decide : (2147483647 : Int) ≤ 2147483647))⟩) (h_many := ⟨(Int.le_trans (by decide : (-2147483648 : Int) ≤ -2147483648) rx_mn.1), (Int.le_trans rx_mn.2 (by decide : (2147483647 : Int) ≤ 2147483647))⟩)  (p_0 := by omega) (p_1 := by omega)) (fun o V_q hq => ?_)
  obtain ⟨G1, A2, r3, sy2_4, na2_5, fk2_6, yk2_7, rfl, rfl, hW8, hF9, hQ10, b11, e12, e13, e14, e15, q16⟩ := hq
  have hF17 := Fr_tr hFx hF9 (Fr_sub (by decide)) (Fr_sub (by decide))
  have hS18 := Fx_tr hSx hQ10 (by omega)
  have bsy2_4 : (0 : Int) ≤ sy2_4 ∧ sy2_4 ≤ 202 := e12 ▸ hW8.1 19
  have bna2_5 : (0 : Int) ≤ na2_5 ∧ na2_5 ≤ 200 := e13 ▸ hW8.1 28
  have bfk2_6 : (0 : Int) ≤ fk2_6 ∧ fk2_6 ≤ 6 := e14 ▸ hW8.1 16
  have byk2_7 : (0 : Int) ≤ yk2_7 ∧ yk2_7 ≤ 14 := e15 ▸ hW8.2 7 _
  refine .inr ⟨_, rfl, ?_⟩
  rcases q16 with ⟨a25, a19, a20, a21, a22, a23, a24⟩ | ⟨rfl, a26, a27, a28⟩
  · have _q : True := trivial
    rw [a25]
    refine jx_ld (pc_q := 185) (l_q := jSto1 L 4 (.int (i32 (sy)))) (st_q := []) rfl rfl ?_
    obtain ⟨L29, eL29⟩ : ∃ q, q = jSto1 L 4 (.int (i32 (sy))) := ⟨_, rfl⟩
    rw [← eL29]
    have gL29_0 : jGet L29 0 = some (.ref 66) := eL29 ▸ jg_ne (by decide) gL_0 rfl
    have gL29_1 : jGet L29 1 = some (.int (i32 (fr))) := eL29 ▸ jg_ne (by decide) gL_1 rfl
    have gL29_2 : jGet L29 2 = some (.int (i32 (kd))) := eL29 ▸ jg_ne (by decide) gL_2 rfl
    have gL29_3 : jGet L29 3 = some (.int (i32 (mn))) := eL29 ▸ jg_ne (by decide) gL_3 rfl
    have gL29_4 : jGet L29 4 = some (.int (i32 (sy))) := eL29 ▸ jg_eq
    refine jx_ld (pc_q := 186) (l_q := L29) (st_q := [.ref 66]) rfl (jl_aloadn gL29_0) ?_
    refine jx_ar (pc_q := 187) (st_q := [.int (i32 (1)), .ref 66]) rfl rfl rfl rfl ?_
    refine jx_vr (pc_q := 190) (as := [.int (i32 (1))]) (st := []) rfl rfl rfl rfl ⟨rfl, rfl, Nat.le_of_ble_eq_true rfl⟩ rfl rfl (c_need (dd := d) (hd := by omega) (hW := hW8) (g := 1) (ln := ln) (e_ln := show G1 9 = ln from ((hF9.1 9 rfl).trans (fx_9))) (le := le) (e_le := show A2 4 (ln).toNat = le from (congrFun ((hF9.2 4 rfl).trans (hFx.2 4 rfl)) _).trans (e_le)) (at0 := at1) (e_at0 := show G1 10 = at1 from ((hF9.1 10 rfl).trans (ex_at1))) (fk := fk2_6) (e_fk := show G1 16 = fk2_6 from (e14)) (tk0 := tk1) (e_tk0 := show G1 11 = tk1 from ((hF9.1 11 rfl).trans (ex_tk1)))  (h_g := ⟨(by decide), (by decide)⟩)  (p_0 := by omega)) (fun o V_q hq => ?_)
    obtain ⟨G30, A31, at2_32, tk2_33, fk2_34, rfl, rfl, hW35, hF36, e37, e38, e39, p40, p41, q42⟩ := hq
    have hF43 := Fr_tr hF17 hF36 (Fr_sub (by decide)) (Fr_sub (by decide))
    have hS44 := Fx_f hS18 hF36 (by decide)
    have sf45 : YD A31 (sy) (kd) (mn) := YD_fx (by omega) (by omega) (Sg_fr (sb := sy + 1) hF36 (by decide)) a24
    have bat2_32 : (0 : Int) ≤ at2_32 ∧ at2_32 ≤ 3002 := e37 ▸ hW35.1 10
    have ztk2_33 := tz_b tk2_33
    have btk2_33 : (0 : Int) ≤ tk2_33 ∧ tk2_33 ≤ 5 := e38 ▸ hW35.1 11
    have bfk2_34 : (0 : Int) ≤ fk2_34 ∧ fk2_34 ≤ 6 := e39 ▸ hW35.1 16
    refine .inl ⟨rfl, ?_⟩
    rcases q42 with ⟨a46, a47, a48, a49⟩ | ⟨a50, a51, a52, a53⟩
    · have _q : True := trivial
      refine jx_rt (v := none) rfl rfl rfl rfl rfl rfl ?_
      exact ⟨_, _, at2_32, fk2_34, sy2_4, na2_5, rfl, rfl, hW35, hF43, hS44, (e37), (e39), ((hF36.1 19 rfl).trans (e12)), ((hF36.1 28 rfl).trans (e13)), by omega, by omega, by omega, by omega, by first | exact Or.inl (by omega)⟩
    · have _q : True := trivial
      refine jx_rt (v := none) rfl rfl rfl rfl rfl rfl ?_
      exact ⟨_, _, at2_32, fk2_34, sy2_4, na2_5, rfl, rfl, hW35, hF43, hS44, (e37), (e39), ((hF36.1 19 rfl).trans (e12)), ((hF36.1 28 rfl).trans (e13)), by omega, by omega, by omega, by omega, by first | exact Or.inr ((⟨by omega, by omega, (MP_of sf45 (by omega) (by omega) (fun q => by omega))⟩))⟩
  · have _q : True := trivial
    refine jx_ld (pc_q := 185) (l_q := jSto1 L 4 (.int (i32 (0)))) (st_q := []) rfl rfl ?_
    obtain ⟨L54, eL54⟩ : ∃ q, q = jSto1 L 4 (.int (i32 (0))) := ⟨_, rfl⟩
    rw [← eL54]
    have gL54_0 : jGet L54 0 = some (.ref 66) := eL54 ▸ jg_ne (by decide) gL_0 rfl
    have gL54_1 : jGet L54 1 = some (.int (i32 (fr))) := eL54 ▸ jg_ne (by decide) gL_1 rfl
    have gL54_2 : jGet L54 2 = some (.int (i32 (kd))) := eL54 ▸ jg_ne (by decide) gL_2 rfl
    have gL54_3 : jGet L54 3 = some (.int (i32 (mn))) := eL54 ▸ jg_ne (by decide) gL_3 rfl
    have gL54_4 : jGet L54 4 = some (.int (i32 (0))) := eL54 ▸ jg_eq
    refine jx_ld (pc_q := 186) (l_q := L54) (st_q := [.ref 66]) rfl (jl_aloadn gL54_0) ?_
    refine jx_ar (pc_q := 187) (st_q := [.int (i32 (1)), .ref 66]) rfl rfl rfl rfl ?_
    refine jx_vr (pc_q := 190) (as := [.int (i32 (1))]) (st := []) rfl rfl rfl rfl ⟨rfl, rfl, Nat.le_of_ble_eq_true rfl⟩ rfl rfl (c_need (dd := d) (hd := by omega) (hW := hW8) (g := 1) (ln := ln) (e_ln := show G1 9 = ln from ((hF9.1 9 rfl).trans (fx_9))) (le := le) (e_le := show A2 4 (ln).toNat = le from (congrFun ((hF9.2 4 rfl).trans (hFx.2 4 rfl)) _).trans (e_le)) (at0 := at1) (e_at0 := show G1 10 = at1 from ((hF9.1 10 rfl).trans (ex_at1))) (fk := fk2_6) (e_fk := show G1 16 = fk2_6 from (e14)) (tk0 := tk1) (e_tk0 := show G1 11 = tk1 from ((hF9.1 11 rfl).trans (ex_tk1)))  (h_g := ⟨(by decide), (by decide)⟩)  (p_0 := by omega)) (fun o V_q hq => ?_)
    obtain ⟨G55, A56, at2_57, tk2_58, fk2_59, rfl, rfl, hW60, hF61, e62, e63, e64, p65, p66, q67⟩ := hq
    have hF68 := Fr_tr hF17 hF61 (Fr_sub (by decide)) (Fr_sub (by decide))
    have hS69 := Fx_f hS18 hF61 (by decide)
    have bat2_57 : (0 : Int) ≤ at2_57 ∧ at2_57 ≤ 3002 := e62 ▸ hW60.1 10
    have ztk2_58 := tz_b tk2_58
    have btk2_58 : (0 : Int) ≤ tk2_58 ∧ tk2_58 ≤ 5 := e63 ▸ hW60.1 11
    have bfk2_59 : (0 : Int) ≤ fk2_59 ∧ fk2_59 ≤ 6 := e64 ▸ hW60.1 16
    refine .inl ⟨rfl, ?_⟩
    rcases q67 with ⟨a70, a71, a72, a73⟩ | ⟨a74, a75, a76, a77⟩
    · have _q : True := trivial
      refine jx_rt (v := none) rfl rfl rfl rfl rfl rfl ?_
      exact ⟨_, _, at2_57, fk2_59, sy2_4, na2_5, rfl, rfl, hW60, hF68, hS69, (e62), (e64), ((hF61.1 19 rfl).trans (e12)), ((hF61.1 28 rfl).trans (e13)), by omega, by omega, by omega, by omega, by first | exact Or.inl (by omega)⟩
    · have _q : True := trivial
      exfalso
      omega
set_option maxRecDepth 20000 in
set_option maxHeartbeats 4000000 in
theorem c_readParameter_at_138 {X : jX} {d : Nat} {c0 c1 : jC} {G : Nat → Int} {A : Nat → Nat → Int} {T : jH} {fr : Int} {ln le at0 fk tk0 sy na : Int} (hd : 8 ≤ d + 1) (hW : Wk G A) (e_ln : G 9 = ln) (e_le : A 4 (ln).toNat = le) (e_at0 : G 10 = at0) (e_fk : G 16 = fk) (e_tk0 : G 11 = tk0) (e_sy : G 19 = sy) (e_na : G 28 = na) (h_fr : (-2147483648 : Int) ≤ fr ∧ fr ≤ 2147483647) (p_0 : fk = 0) (p_1 : at0 ≤ le) (p_2 : 0 ≤ fr ∧ fr ≤ sy) (p_3 : sy ≤ na + 2) : ∀ (m : Nat) (L : jL) (Gx : Nat → Int) (Ax : Nat → Nat → Int) (kd mn s at1 tk1 fk1 : Int), (sy - s).toNat = m → jGet L 0 = some (.ref 66) → jGet L 1 = some (.int (i32 (fr))) → jGet L 2 = some (.int (i32 kd)) → jGet L 3 = some (.int (i32 mn)) → jGet L 4 = some (.int (i32 s)) → Wk Gx Ax → Fr [10, 11, 12, 13, 14, 16, 17, 18, 19, 28] [6, 7, 8, 9, 10, 11, 12] G A Gx Ax → Fx sr (sy) A Ax → Gx 10 = at1 → Gx 11 = tk1 → Gx 16 = fk1 → Gx 9 = ln → Gx 19 = sy → Gx 28 = na → ((-2147483648 : Int) ≤ kd ∧ kd ≤ 2147483647) → ((-2147483648 : Int) ≤ mn ∧ mn ≤ 2147483647) → ((-2147483648 : Int) ≤ s ∧ s ≤ 2147483647) → (at0 ≤ at1) → (at1 ≤ le) → ((kd = 7 ∧ 1 ≤ mn ∧ mn ≤ 64) ∨ (5 ≤ kd ∧ kd ≤ 8 ∧ kd ≠ 7 ∧ mn = 1)) → (fr ≤ s ∧ s ≤ sy) → wj X d jm309 (138, L, [], rV c0 c1 Gx Ax T) (fun o V_q => ∃ (G_q : Nat → Int) (A_q : Nat → Nat → Int) (at2 : Int) (fk2 : Int) (sy2 : Int) (na2 : Int), V_q = rV c0 c1 G_q A_q T ∧ o = .inl none ∧ Wk G_q A_q ∧ Fr [10, 11, 12, 13, 14, 16, 17, 18, 19, 28] [6, 7, 8, 9, 10, 11, 12] G A G_q A_q ∧ Fx sr (sy) A A_q ∧ G_q 10 = at2 ∧ G_q 16 = fk2 ∧ G_q 19 = sy2 ∧ G_q 28 = na2 ∧ (at0 ≤ at2) ∧ (at2 ≤ le) ∧ (sy ≤ sy2) ∧ (sy2 ≤ na2 + 2) ∧ (((1 ≤ fk2)) ∨ ((fk2 = 0) ∧ (sy2 = sy + 1) ∧ (MP A_q (sy))))) := by
  have hF0 : Fr [10, 11, 12, 13, 14, 16, 17, 18, 19, 28] [6, 7, 8, 9, 10, 11, 12] G A G A := Fr_rf
  have hS0 : Fx sr (sy) A A := Fx_rf
  have b_ln : (0 : Int) ≤ ln ∧ ln ≤ 3000 := e_ln ▸ hW.1 9
  have b_le : (0 : Int) ≤ le ∧ le ≤ 3000 := e_le ▸ hW.2 4 _
  have b_at0 : (0 : Int) ≤ at0 ∧ at0 ≤ 3002 := e_at0 ▸ hW.1 10
  have b_fk : (0 : Int) ≤ fk ∧ fk ≤ 6 := e_fk ▸ hW.1 16
  have b_tk0 : (0 : Int) ≤ tk0 ∧ tk0 ≤ 5 := e_tk0 ▸ hW.1 11
  have b_sy : (0 : Int) ≤ sy ∧ sy ≤ 202 := e_sy ▸ hW.1 19
  have b_na : (0 : Int) ≤ na ∧ na ≤ 200 := e_na ▸ hW.1 28
  intro m
  induction m using Nat.strongRecOn with
  | ind m ih138 =>
    intro L Gx Ax kd mn s at1 tk1 fk1 hm gL_0 gL_1 gL_2 gL_3 gL_4 hWx hFx hSx ex_at1 ex_tk1 ex_fk1 fx_9 fx_19 fx_28 rx_kd rx_mn rx_s iv_0 iv_1 iv_2 iv_3
    have b_at1 : (0 : Int) ≤ at1 ∧ at1 ≤ 3002 := ex_at1 ▸ hWx.1 10
    have b_tk1 : (0 : Int) ≤ tk1 ∧ tk1 ≤ 5 := ex_tk1 ▸ hWx.1 11
    have b_fk1 : (0 : Int) ≤ fk1 ∧ fk1 ≤ 6 := ex_fk1 ▸ hWx.1 16
    refine jx_ld (pc_q := 140) (l_q := L) (st_q := [.int (i32 (s))]) rfl (jl_iload gL_4) ?_
    refine jx_ld (pc_q := 141) (l_q := L) (st_q := [.ref 66, .int (i32 (s))]) rfl (jl_aloadn gL_0) ?_
    refine jr_get (pc_q := 144) (i := 19) (v := .int (i32 (sy))) rfl rfl (by decide) (rFv_eq (by decide) (show Gx 19 = sy from (fx_19))) rfl ?_
    refine jx_icmp_ge (pc_q := 147) (tg := 177) rfl rfl rfl (Int.le_trans (by decide : (-2147483648 : Int) ≤ -2147483648) rx_s.1) (Int.le_trans rx_s.2 (by decide : (2147483647 : Int) ≤ 2147483647)) (Int.le_trans (by decide : (-2147483648 : Int) ≤ 0) b_sy.1) (Int.le_trans b_sy.2 (by decide : (202 : Int) ≤ 2147483647)) (fun h78 => ?_) (fun h78 => ?_)
    · have _q := h78
      exact c_readParameter_at_177 (X := X) (d := d) (c0 := c0) (c1 := c1) (G := G) (A := A) (T := T) (fr := fr) (ln := ln) (le := le) (at0 := at0) (fk := fk) (tk0 := tk0) (sy := sy) (na := na) (hd := hd) (hW := hW) (e_ln := e_ln) (e_le := e_le) (e_at0 := e_at0) (e_fk := e_fk) (e_tk0 := e_tk0) (e_sy := e_sy) (e_na := e_na) (h_fr := h_fr) (p_0 := p_0) (p_1 := p_1) (p_2 := p_2) (p_3 := p_3) L Gx Ax (kd) (mn) (at1) (tk1) (fk1) gL_0 gL_1 gL_2 gL_3 hWx hFx hSx ((ex_at1)) ((ex_tk1)) ((ex_fk1)) ((fx_9)) ((fx_19)) ((fx_28)) (by omega) (by omega) (by omega) (by omega) (by omega)
    · have _q := h78
      refine jx_ld (pc_q := 148) (l_q := L) (st_q := [.ref 66]) rfl (jl_aloadn gL_0) ?_
      refine jr_get (pc_q := 151) (i := 20) (v := .ref 73) rfl rfl (by decide) rfl rfl ?_
      refine jx_ld (pc_q := 153) (l_q := L) (st_q := [.int (i32 (s)), .ref 73]) rfl (jl_iload gL_4) ?_
      refine jr_llv (pc_q := 154) (i := 6) (m := 260) (z := s) rfl (by decide) rfl (by decide) (by omega) (by omega) rfl (fun y79 => ?_)
      refine jx_ld (pc_q := 155) (l_q := L) (st_q := [.ref 66, .long (y79)]) rfl (jl_aloadn gL_0) ?_
      refine jr_get (pc_q := 158) (i := 14) (v := .long (i64 (Gx 14))) rfl rfl (by decide) rfl rfl ?_
      obtain ⟨y80, ey80⟩ : ∃ q : Int64, q = i64 (Gx 14) := ⟨_, rfl⟩
      rw [← ey80]
      refine jx_lcmp (pc_q := 159) rfl rfl (fun r81 hr81 => ?_)
      refine jx_if_ne (pc_q := 162) (tg := 171) rfl rfl rfl (by omega) (by omega) (fun h82 => ?_) (fun h82 => ?_)
      · have _q := h82
        refine jx_inc (pc_q := 174) (l_q := jSto1 L 4 (.int (i32 ((s + (1)))))) (x := s) rfl gL_4 (by decide) rfl rfl ?_
        obtain ⟨L83, eL83⟩ : ∃ q, q = jSto1 L 4 (.int (i32 ((s + (1))))) := ⟨_, rfl⟩
        rw [← eL83]
        have gL83_0 : jGet L83 0 = some (.ref 66) := eL83 ▸ jg_ne (by decide) gL_0 rfl
        have gL83_1 : jGet L83 1 = some (.int (i32 (fr))) := eL83 ▸ jg_ne (by decide) gL_1 rfl
        have gL83_2 : jGet L83 2 = some (.int (i32 (kd))) := eL83 ▸ jg_ne (by decide) gL_2 rfl
        have gL83_3 : jGet L83 3 = some (.int (i32 (mn))) := eL83 ▸ jg_ne (by decide) gL_3 rfl
        have gL83_4 : jGet L83 4 = some (.int (i32 ((s + (1))))) := eL83 ▸ jg_eq
        refine jx_go (tg := 138) rfl rfl ?_
        exact ih138 _ (by omega) L83 Gx Ax (kd) (mn) ((s + (1))) (at1) (tk1) (fk1) rfl gL83_0 gL83_1 gL83_2 gL83_3 gL83_4 hWx hFx hSx ((ex_at1)) ((ex_tk1)) ((ex_fk1)) ((fx_9)) ((fx_19)) ((fx_28)) (by omega) (by omega) (by omega) (by omega) (by omega) (by omega) (by omega)
      · have _q := h82
        refine jx_ld (pc_q := 163) (l_q := L) (st_q := [.ref 66]) rfl (jl_aloadn gL_0) ?_
        refine jx_ar (pc_q := 164) (st_q := [.int (i32 (2)), .ref 66]) rfl rfl rfl rfl ?_
        refine jx_ld (pc_q := 165) (l_q := L) (st_q := [.ref 66, .int (i32 (2)), .ref 66]) rfl (jl_aloadn gL_0) ?_
        have b84 : (-3000 : Int) ≤ Gx 12 ∧ Gx 12 ≤ 3002 := hWx.1 12
        refine jr_get (pc_q := 168) (i := 12) (v := .int (i32 (Gx 12))) rfl rfl (by decide) rfl rfl ?_
        refine jx_vr (pc_q := 171) (as := [.int (i32 (2)), .int (i32 (Gx 12))]) (st := []) rfl rfl rfl rfl ⟨rfl, rfl, Nat.le_of_ble_eq_true rfl⟩ rfl rfl (c_fail (dd := d) (hd := by omega) (hW := hWx) (kind := 2) (place := Gx 12) (fk := fk1) (e_fk := show Gx 16 = fk1 from (ex_fk1))  (h_kind := ⟨(by decide), (by decide)⟩) (h_place := ⟨(Int.le_trans (by decide : (-2147483648 : Int) ≤ -3000) b84.1), (Int.le_trans b84.2 (by decide : (3002 : Int) ≤ 2147483647))⟩)  (p_0 := by omega) (p_1 := by omega)) (fun o V_q hq => ?_)
        obtain ⟨G85, A86, fk2_87, rfl, rfl, hW88, hF89, e90, p91, -⟩ := hq
        have hF93 := Fr_tr hFx hF89 (Fr_sub (by decide)) (Fr_sub (by decide))
        have hS94 := Fx_f hSx hF89 (by decide)
        have bfk2_87 : (0 : Int) ≤ fk2_87 ∧ fk2_87 ≤ 6 := e90 ▸ hW88.1 16
        refine .inl ⟨rfl, ?_⟩
        refine jx_inc (pc_q := 174) (l_q := jSto1 L 4 (.int (i32 ((s + (1)))))) (x := s) rfl gL_4 (by decide) rfl rfl ?_
        obtain ⟨L95, eL95⟩ : ∃ q, q = jSto1 L 4 (.int (i32 ((s + (1))))) := ⟨_, rfl⟩
        rw [← eL95]
        have gL95_0 : jGet L95 0 = some (.ref 66) := eL95 ▸ jg_ne (by decide) gL_0 rfl
        have gL95_1 : jGet L95 1 = some (.int (i32 (fr))) := eL95 ▸ jg_ne (by decide) gL_1 rfl
        have gL95_2 : jGet L95 2 = some (.int (i32 (kd))) := eL95 ▸ jg_ne (by decide) gL_2 rfl
        have gL95_3 : jGet L95 3 = some (.int (i32 (mn))) := eL95 ▸ jg_ne (by decide) gL_3 rfl
        have gL95_4 : jGet L95 4 = some (.int (i32 ((s + (1))))) := eL95 ▸ jg_eq
        refine jx_go (tg := 138) rfl rfl ?_
        exact ih138 _ (by omega) L95 G85 A86 (kd) (mn) ((s + (1))) (at1) (tk1) (fk2_87) rfl gL95_0 gL95_1 gL95_2 gL95_3 gL95_4 hW88 hF93 hS94 (((hF89.1 10 rfl).trans (ex_at1))) (((hF89.1 11 rfl).trans (ex_tk1))) ((e90)) (((hF89.1 9 rfl).trans (fx_9))) (((hF89.1 19 rfl).trans (fx_19))) (((hF89.1 28 rfl).trans (fx_28))) (by omega) (by omega) (by omega) (by omega) (by omega) (by omega) (by omega)
set_option maxRecDepth 20000 in
set_option maxHeartbeats 4000000 in
theorem c_readParameter_at_109 {X : jX} {d : Nat} {c0 c1 : jC} {G : Nat → Int} {A : Nat → Nat → Int} {T : jH} {fr : Int} {ln le at0 fk tk0 sy na : Int} (hd : 8 ≤ d + 1) (hW : Wk G A) (e_ln : G 9 = ln) (e_le : A 4 (ln).toNat = le) (e_at0 : G 10 = at0) (e_fk : G 16 = fk) (e_tk0 : G 11 = tk0) (e_sy : G 19 = sy) (e_na : G 28 = na) (h_fr : (-2147483648 : Int) ≤ fr ∧ fr ≤ 2147483647) (p_0 : fk = 0) (p_1 : at0 ≤ le) (p_2 : 0 ≤ fr ∧ fr ≤ sy) (p_3 : sy ≤ na + 2) : ∀ (L : jL) (Gx : Nat → Int) (Ax : Nat → Nat → Int) (kd mn at1 tk1 fk1 : Int), jGet L 0 = some (.ref 66) → jGet L 1 = some (.int (i32 (fr))) → jGet L 2 = some (.int (i32 kd)) → jGet L 3 = some (.int (i32 mn)) → Wk Gx Ax → Fr [10, 11, 12, 13, 14, 16, 17, 18, 19, 28] [6, 7, 8, 9, 10, 11, 12] G A Gx Ax → Fx sr (sy) A Ax → Gx 10 = at1 → Gx 11 = tk1 → Gx 16 = fk1 → Gx 9 = ln → Gx 19 = sy → Gx 28 = na → ((-2147483648 : Int) ≤ kd ∧ kd ≤ 2147483647) → ((-2147483648 : Int) ≤ mn ∧ mn ≤ 2147483647) → (fk1 = 0) → (at0 ≤ at1) → (at1 ≤ le) → ((kd = 7 ∧ 1 ≤ mn ∧ mn ≤ 64) ∨ (5 ≤ kd ∧ kd ≤ 8 ∧ kd ≠ 7 ∧ mn = 1)) → wj X d jm309 (109, L, [], rV c0 c1 Gx Ax T) (fun o V_q => ∃ (G_q : Nat → Int) (A_q : Nat → Nat → Int) (at2 : Int) (fk2 : Int) (sy2 : Int) (na2 : Int), V_q = rV c0 c1 G_q A_q T ∧ o = .inl none ∧ Wk G_q A_q ∧ Fr [10, 11, 12, 13, 14, 16, 17, 18, 19, 28] [6, 7, 8, 9, 10, 11, 12] G A G_q A_q ∧ Fx sr (sy) A A_q ∧ G_q 10 = at2 ∧ G_q 16 = fk2 ∧ G_q 19 = sy2 ∧ G_q 28 = na2 ∧ (at0 ≤ at2) ∧ (at2 ≤ le) ∧ (sy ≤ sy2) ∧ (sy2 ≤ na2 + 2) ∧ (((1 ≤ fk2)) ∨ ((fk2 = 0) ∧ (sy2 = sy + 1) ∧ (MP A_q (sy))))) := by
  have hF0 : Fr [10, 11, 12, 13, 14, 16, 17, 18, 19, 28] [6, 7, 8, 9, 10, 11, 12] G A G A := Fr_rf
  have hS0 : Fx sr (sy) A A := Fx_rf
  have b_ln : (0 : Int) ≤ ln ∧ ln ≤ 3000 := e_ln ▸ hW.1 9
  have b_le : (0 : Int) ≤ le ∧ le ≤ 3000 := e_le ▸ hW.2 4 _
  have b_at0 : (0 : Int) ≤ at0 ∧ at0 ≤ 3002 := e_at0 ▸ hW.1 10
  have b_fk : (0 : Int) ≤ fk ∧ fk ≤ 6 := e_fk ▸ hW.1 16
  have b_tk0 : (0 : Int) ≤ tk0 ∧ tk0 ≤ 5 := e_tk0 ▸ hW.1 11
  have b_sy : (0 : Int) ≤ sy ∧ sy ≤ 202 := e_sy ▸ hW.1 19
  have b_na : (0 : Int) ≤ na ∧ na ≤ 200 := e_na ▸ hW.1 28
  intro L Gx Ax kd mn at1 tk1 fk1 gL_0 gL_1 gL_2 gL_3 hWx hFx hSx ex_at1 ex_tk1 ex_fk1 fx_9 fx_19 fx_28 rx_kd rx_mn iv_0 iv_1 iv_2 iv_3
  have b_at1 : (0 : Int) ≤ at1 ∧ at1 ≤ 3002 := ex_at1 ▸ hWx.1 10
  have b_tk1 : (0 : Int) ≤ tk1 ∧ tk1 ≤ 5 := ex_tk1 ▸ hWx.1 11
  have b_fk1 : (0 : Int) ≤ fk1 ∧ fk1 ≤ 6 := ex_fk1 ▸ hWx.1 16
  refine jx_ld (pc_q := 110) (l_q := L) (st_q := [.ref 66]) rfl (jl_aloadn gL_0) ?_
  refine jx_vr (pc_q := 113) (as := []) (st := []) rfl rfl rfl rfl ⟨rfl, rfl, Nat.le_of_ble_eq_true rfl⟩ rfl rfl (c_bad (dd := d) (hd := by omega) (hW := hWx)  (fk := fk1) (e_fk := show Gx 16 = fk1 from (ex_fk1))    ) (fun o V_q hq => ?_)
  obtain ⟨r96, rfl, rfl, b97, q98⟩ := hq
  refine .inr ⟨_, rfl, ?_⟩
  rcases q98 with ⟨rfl, a99⟩ | ⟨rfl, a100⟩
  · have _q : True := trivial
    exfalso
    omega
  · have _q : True := trivial
    refine jx_if_eq (pc_q := 116) (tg := 117) rfl rfl rfl (by decide) (by decide) (fun h101 => ?_) (fun h101 => ?_)
    · have _q := h101
      refine jx_ld (pc_q := 118) (l_q := L) (st_q := [.ref 66]) rfl (jl_aloadn gL_0) ?_
      refine jr_get (pc_q := 121) (i := 11) (v := .int (i32 (tk1))) rfl rfl (by decide) (rFv_eq (by decide) (show Gx 11 = tk1 from (ex_tk1))) rfl ?_
      refine jx_ar (pc_q := 122) (st_q := [.int (i32 (1)), .int (i32 (tk1))]) rfl rfl rfl rfl ?_
      refine jx_icmp_eq (pc_q := 125) (tg := 135) rfl rfl rfl (Int.le_trans (by decide : (-2147483648 : Int) ≤ 0) b_tk1.1) (Int.le_trans b_tk1.2 (by decide : (5 : Int) ≤ 2147483647)) (by decide) (by decide) (fun h102 => ?_) (fun h102 => ?_)
      · have _q := h102
        refine jx_ld (pc_q := 136) (l_q := L) (st_q := [.int (i32 (fr))]) rfl (jl_iloadn gL_1) ?_
        refine jx_ld (pc_q := 138) (l_q := jSto1 L 4 (.int (i32 (fr)))) (st_q := []) rfl rfl ?_
        obtain ⟨L103, eL103⟩ : ∃ q, q = jSto1 L 4 (.int (i32 (fr))) := ⟨_, rfl⟩
        rw [← eL103]
        have gL103_0 : jGet L103 0 = some (.ref 66) := eL103 ▸ jg_ne (by decide) gL_0 rfl
        have gL103_1 : jGet L103 1 = some (.int (i32 (fr))) := eL103 ▸ jg_ne (by decide) gL_1 rfl
        have gL103_2 : jGet L103 2 = some (.int (i32 (kd))) := eL103 ▸ jg_ne (by decide) gL_2 rfl
        have gL103_3 : jGet L103 3 = some (.int (i32 (mn))) := eL103 ▸ jg_ne (by decide) gL_3 rfl
        have gL103_4 : jGet L103 4 = some (.int (i32 (fr))) := eL103 ▸ jg_eq
        exact c_readParameter_at_138 (X := X) (d := d) (c0 := c0) (c1 := c1) (G := G) (A := A) (T := T) (fr := fr) (ln := ln) (le := le) (at0 := at0) (fk := fk) (tk0 := tk0) (sy := sy) (na := na) (hd := hd) (hW := hW) (e_ln := e_ln) (e_le := e_le) (e_at0 := e_at0) (e_fk := e_fk) (e_tk0 := e_tk0) (e_sy := e_sy) (e_na := e_na) (h_fr := h_fr) (p_0 := p_0) (p_1 := p_1) (p_2 := p_2) (p_3 := p_3) _ L103 Gx Ax (kd) (mn) (fr) (at1) (tk1) (fk1) rfl gL103_0 gL103_1 gL103_2 gL103_3 gL103_4 hWx hFx hSx ((ex_at1)) ((ex_tk1)) ((ex_fk1)) ((fx_9)) ((fx_19)) ((fx_28)) (by omega) (by omega) (by omega) (by omega) (by omega) (by omega) (by omega)
      · have _q := h102
        refine jx_ld (pc_q := 126) (l_q := L) (st_q := [.ref 66]) rfl (jl_aloadn gL_0) ?_
        refine jx_ar (pc_q := 127) (st_q := [.int (i32 (1)), .ref 66]) rfl rfl rfl rfl ?_
        refine jx_ld (pc_q := 128) (l_q := L) (st_q := [.ref 66, .int (i32 (1)), .ref 66]) rfl (jl_aloadn gL_0) ?_
        have b104 : (-3000 : Int) ≤ Gx 12 ∧ Gx 12 ≤ 3002 := hWx.1 12
        refine jr_get (pc_q := 131) (i := 12) (v := .int (i32 (Gx 12))) rfl rfl (by decide) rfl rfl ?_
        refine jx_vr (pc_q := 134) (as := [.int (i32 (1)), .int (i32 (Gx 12))]) (st := []) rfl rfl rfl rfl ⟨rfl, rfl, Nat.le_of_ble_eq_true rfl⟩ rfl rfl (c_fail (dd := d) (hd := by omega) (hW := hWx) (kind := 1) (place := Gx 12) (fk := fk1) (e_fk := show Gx 16 = fk1 from (ex_fk1))  (h_kind := ⟨(by decide), (by decide)⟩) (h_place := ⟨(Int.le_trans (by decide : (-2147483648 : Int) ≤ -3000) b104.1), (Int.le_trans b104.2 (by decide : (3002 : Int) ≤ 2147483647))⟩)  (p_0 := by omega) (p_1 := by omega)) (fun o V_q hq => ?_)
        obtain ⟨G105, A106, fk2_107, rfl, rfl, hW108, hF109, e110, p111, -⟩ := hq
        have hF113 := Fr_tr hFx hF109 (Fr_sub (by decide)) (Fr_sub (by decide))
        have hS114 := Fx_f hSx hF109 (by decide)
        have bfk2_107 : (0 : Int) ≤ fk2_107 ∧ fk2_107 ≤ 6 := e110 ▸ hW108.1 16
        refine .inl ⟨rfl, ?_⟩
        refine jx_rt (v := none) rfl rfl rfl rfl rfl rfl ?_
        exact ⟨_, _, at1, fk2_107, sy, na, rfl, rfl, hW108, hF113, hS114, ((hF109.1 10 rfl).trans (ex_at1)), (e110), ((hF109.1 19 rfl).trans (fx_19)), ((hF109.1 28 rfl).trans (fx_28)), by omega, by omega, by omega, by omega, by first | exact Or.inl (by omega)⟩
    · have _q := h101
      exact absurd h101 (by omega)
set_option maxRecDepth 20000 in
set_option maxHeartbeats 4000000 in
theorem c_readParameter {X : jX} {dd : Nat} {c0 c1 : jC} {G : Nat → Int} {A : Nat → Nat → Int} {T : jH} {fr : Int} {ln le at0 fk tk0 sy na : Int} (hd : 8 ≤ dd) (hW : Wk G A) (e_ln : G 9 = ln) (e_le : A 4 (ln).toNat = le) (e_at0 : G 10 = at0) (e_fk : G 16 = fk) (e_tk0 : G 11 = tk0) (e_sy : G 19 = sy) (e_na : G 28 = na) (h_fr : (-2147483648 : Int) ≤ fr ∧ fr ≤ 2147483647) (p_0 : fk = 0) (p_1 : at0 ≤ le) (p_2 : 0 ≤ fr ∧ fr ≤ sy) (p_3 : sy ≤ na + 2) : wk X dd 309 [.ref 66, .int (i32 fr)] (rV c0 c1 G A T) (fun o V_q => ∃ (G_q : Nat → Int) (A_q : Nat → Nat → Int) (at2 : Int) (fk2 : Int) (sy2 : Int) (na2 : Int), V_q = rV c0 c1 G_q A_q T ∧ o = .inl none ∧ Wk G_q A_q ∧ Fr [10, 11, 12, 13, 14, 16, 17, 18, 19, 28] [6, 7, 8, 9, 10, 11, 12] G A G_q A_q ∧ Fx sr (sy) A A_q ∧ G_q 10 = at2 ∧ G_q 16 = fk2 ∧ G_q 19 = sy2 ∧ G_q 28 = na2 ∧ (at0 ≤ at2) ∧ (at2 ≤ le) ∧ (sy ≤ sy2) ∧ (sy2 ≤ na2 + 2) ∧ (((1 ≤ fk2)) ∨ ((fk2 = 0) ∧ (sy2 = sy + 1) ∧ (MP A_q (sy))))) := by
  obtain ⟨d, rfl⟩ : ∃ d, dd = d + 1 := ⟨dd - 1, by omega⟩
  refine wk_of (e := jm309) rfl (Nat.le_of_ble_eq_true rfl) ?_
  show wj X d jm309 (0, [(0, .ref 66), (1, .int (i32 (fr)))], [], rV c0 c1 G A T) _
  have hF0 : Fr [10, 11, 12, 13, 14, 16, 17, 18, 19, 28] [6, 7, 8, 9, 10, 11, 12] G A G A := Fr_rf
  have hS0 : Fx sr (sy) A A := Fx_rf
  have b_ln : (0 : Int) ≤ ln ∧ ln ≤ 3000 := e_ln ▸ hW.1 9
  have b_le : (0 : Int) ≤ le ∧ le ≤ 3000 := e_le ▸ hW.2 4 _
  have b_at0 : (0 : Int) ≤ at0 ∧ at0 ≤ 3002 := e_at0 ▸ hW.1 10
  have b_fk : (0 : Int) ≤ fk ∧ fk ≤ 6 := e_fk ▸ hW.1 16
  have b_tk0 : (0 : Int) ≤ tk0 ∧ tk0 ≤ 5 := e_tk0 ▸ hW.1 11
  have b_sy : (0 : Int) ≤ sy ∧ sy ≤ 202 := e_sy ▸ hW.1 19
  have b_na : (0 : Int) ≤ na ∧ na ≤ 200 := e_na ▸ hW.1 28
  refine jx_ar (pc_q := 2) (st_q := [.int (i32 (6))]) rfl rfl rfl rfl ?_
  refine jx_ld (pc_q := 3) (l_q := jSto1 [(0, .ref 66), (1, .int (i32 (fr)))] 2 (.int (i32 (6)))) (st_q := []) rfl rfl ?_
  obtain ⟨L115, eL115⟩ : ∃ q, q = jSto1 [(0, .ref 66), (1, .int (i32 (fr)))] 2 (.int (i32 (6))) := ⟨_, rfl⟩
  rw [← eL115]
  have gL115_0 : jGet L115 0 = some (.ref 66) := eL115 ▸ jg_ne (by decide) (rfl : jGet [(0, .ref 66), (1, .int (i32 (fr)))] 0 = some (.ref 66)) rfl
  have gL115_1 : jGet L115 1 = some (.int (i32 (fr))) := eL115 ▸ jg_ne (by decide) (rfl : jGet [(0, .ref 66), (1, .int (i32 (fr)))] 1 = some (.int (i32 (fr)))) rfl
  have gL115_2 : jGet L115 2 = some (.int (i32 (6))) := eL115 ▸ jg_eq
  refine jx_ar (pc_q := 4) (st_q := [.int (i32 (1))]) rfl rfl rfl rfl ?_
  refine jx_ld (pc_q := 5) (l_q := jSto1 L115 3 (.int (i32 (1)))) (st_q := []) rfl rfl ?_
  obtain ⟨L116, eL116⟩ : ∃ q, q = jSto1 L115 3 (.int (i32 (1))) := ⟨_, rfl⟩
  rw [← eL116]
  have gL116_0 : jGet L116 0 = some (.ref 66) := eL116 ▸ jg_ne (by decide) gL115_0 rfl
  have gL116_1 : jGet L116 1 = some (.int (i32 (fr))) := eL116 ▸ jg_ne (by decide) gL115_1 rfl
  have gL116_2 : jGet L116 2 = some (.int (i32 (6))) := eL116 ▸ jg_ne (by decide) gL115_2 rfl
  have gL116_3 : jGet L116 3 = some (.int (i32 (1))) := eL116 ▸ jg_eq
  refine jx_ld (pc_q := 6) (l_q := L116) (st_q := [.ref 66]) rfl (jl_aloadn gL116_0) ?_
  refine jx_ar (pc_q := 8) (st_q := [.int (i32 (11)), .ref 66]) rfl rfl rfl rfl ?_
  have b117 : (-2147483648 : Int) ≤ G 13 ∧ G 13 ≤ 2147483647 := hW.1 13
  refine jx_vr (pc_q := 11) (as := [.int (i32 (11))]) (st := []) rfl rfl rfl rfl ⟨rfl, rfl, Nat.le_of_ble_eq_true rfl⟩ rfl rfl (c_isKey (dd := d) (hd := by omega) (hW := hW) (k := 11) (tk := tk0) (e_tk := show G 11 = tk0 from (e_tk0)) (tn := G 13) (e_tn := show G 13 = G 13 from rfl)  (h_k := ⟨(by decide), (by decide)⟩)  ) (fun o V_q hq => ?_)
  obtain ⟨r118, rfl, rfl, b119, q120⟩ := hq
  refine .inr ⟨_, rfl, ?_⟩
  rcases q120 with ⟨rfl, a121, a122, a123⟩ | rfl
  · have _q : True := trivial
    refine jx_if_eq (pc_q := 14) (tg := 33) rfl rfl rfl (by decide) (by decide) (fun h124 => ?_) (fun h124 => ?_)
    · have _q := h124
      exact absurd h124 (by omega)
    · have _q := h124
      refine jx_ar (pc_q := 15) (st_q := [.int (i32 (5))]) rfl rfl rfl rfl ?_
      refine jx_ld (pc_q := 16) (l_q := jSto1 L116 2 (.int (i32 (5)))) (st_q := []) rfl rfl ?_
      obtain ⟨L125, eL125⟩ : ∃ q, q = jSto1 L116 2 (.int (i32 (5))) := ⟨_, rfl⟩
      rw [← eL125]
      have gL125_0 : jGet L125 0 = some (.ref 66) := eL125 ▸ jg_ne (by decide) gL116_0 rfl
      have gL125_1 : jGet L125 1 = some (.int (i32 (fr))) := eL125 ▸ jg_ne (by decide) gL116_1 rfl
      have gL125_3 : jGet L125 3 = some (.int (i32 (1))) := eL125 ▸ jg_ne (by decide) gL116_3 rfl
      have gL125_2 : jGet L125 2 = some (.int (i32 (5))) := eL125 ▸ jg_eq
      refine jx_ld (pc_q := 17) (l_q := L125) (st_q := [.ref 66]) rfl (jl_aloadn gL125_0) ?_
      refine jx_vr (pc_q := 20) (as := []) (st := []) rfl rfl rfl rfl ⟨rfl, rfl, Nat.le_of_ble_eq_true rfl⟩ rfl rfl (c_next (dd := d) (hd := by omega) (hW := hW)  (ln := ln) (e_ln := show G 9 = ln from (e_ln)) (le := le) (e_le := show A 4 (ln).toNat = le from (e_le)) (at0 := at0) (e_at0 := show G 10 = at0 from (e_at0))    (p_0 := by omega)) (fun o V_q hq => ?_)
      obtain ⟨G126, A127, at2_128, tk2_129, rfl, rfl, hW130, hF131, e132, e133, p134, p135, p136, -⟩ := hq
      have hF138 := Fr_tr hF0 hF131 (Fr_sub (by decide)) (Fr_sub (by decide))
      have hS139 := Fx_f hS0 hF131 (by decide)
      have bat2_128 : (0 : Int) ≤ at2_128 ∧ at2_128 ≤ 3002 := e132 ▸ hW130.1 10
      have ztk2_129 := tz_b tk2_129
      have btk2_129 : (0 : Int) ≤ tk2_129 ∧ tk2_129 ≤ 5 := e133 ▸ hW130.1 11
      refine .inl ⟨rfl, ?_⟩
      refine jx_ld (pc_q := 21) (l_q := L125) (st_q := [.ref 66]) rfl (jl_aloadn gL125_0) ?_
      refine jx_ld (pc_q := 22) (l_q := L125) (st_q := [.ref 66, .ref 66]) rfl (jl_aloadn gL125_0) ?_
      refine jx_ar (pc_q := 24) (st_q := [.int (i32 (9)), .ref 66, .ref 66]) rfl rfl rfl rfl ?_
      have b140 : (-2147483648 : Int) ≤ G126 13 ∧ G126 13 ≤ 2147483647 := hW130.1 13
      refine jx_vr (pc_q := 27) (as := [.int (i32 (9))]) (st := [.ref 66]) rfl rfl rfl rfl ⟨rfl, rfl, Nat.le_of_ble_eq_true rfl⟩ rfl rfl (c_isKey (dd := d) (hd := by omega) (hW := hW130) (k := 9) (tk := tk2_129) (e_tk := show G126 11 = tk2_129 from (e133)) (tn := G126 13) (e_tn := show G126 13 = G126 13 from rfl)  (h_k := ⟨(by decide), (by decide)⟩)  ) (fun o V_q hq => ?_)
      obtain ⟨r141, rfl, rfl, b142, q143⟩ := hq
      refine .inr ⟨_, rfl, ?_⟩
      rcases q143 with ⟨rfl, a144, a145, a146⟩ | rfl
      · have _q : True := trivial
        refine jx_vr (pc_q := 30) (as := [.int (i32 (1))]) (st := []) rfl rfl rfl rfl ⟨rfl, rfl, Nat.le_of_ble_eq_true rfl⟩ rfl rfl (c_need (dd := d) (hd := by omega) (hW := hW130) (g := 1) (ln := ln) (e_ln := show G126 9 = ln from ((hF131.1 9 rfl).trans (e_ln))) (le := le) (e_le := show A127 4 (ln).toNat = le from (congrFun (hF131.2 4 rfl) _).trans (e_le)) (at0 := at2_128) (e_at0 := show G126 10 = at2_128 from (e132)) (fk := fk) (e_fk := show G126 16 = fk from ((hF131.1 16 rfl).trans (e_fk))) (tk0 := tk2_129) (e_tk0 := show G126 11 = tk2_129 from (e133))  (h_g := ⟨(by decide), (by decide)⟩)  (p_0 := by omega)) (fun o V_q hq => ?_)
        obtain ⟨G147, A148, at2_149, tk2_150, fk2_151, rfl, rfl, hW152, hF153, e154, e155, e156, p157, p158, q159⟩ := hq
        have hF160 := Fr_tr hF138 hF153 (Fr_sub (by decide)) (Fr_sub (by decide))
        have hS161 := Fx_f hS139 hF153 (by decide)
        have bat2_149 : (0 : Int) ≤ at2_149 ∧ at2_149 ≤ 3002 := e154 ▸ hW152.1 10
        have ztk2_150 := tz_b tk2_150
        have btk2_150 : (0 : Int) ≤ tk2_150 ∧ tk2_150 ≤ 5 := e155 ▸ hW152.1 11
        have bfk2_151 : (0 : Int) ≤ fk2_151 ∧ fk2_151 ≤ 6 := e156 ▸ hW152.1 16
        refine .inl ⟨rfl, ?_⟩
        rcases q159 with ⟨a162, a163, a164, a165⟩ | ⟨a166, a167, a168, a169⟩
        · have _q : True := trivial
          refine jx_go (tg := 109) rfl rfl ?_
          refine jx_ld (pc_q := 110) (l_q := L125) (st_q := [.ref 66]) rfl (jl_aloadn gL125_0) ?_
          refine jx_vr (pc_q := 113) (as := []) (st := []) rfl rfl rfl rfl ⟨rfl, rfl, Nat.le_of_ble_eq_true rfl⟩ rfl rfl (c_bad (dd := d) (hd := by omega) (hW := hW152)  (fk := fk2_151) (e_fk := show G147 16 = fk2_151 from (e156))    ) (fun o V_q hq => ?_)
          obtain ⟨r170, rfl, rfl, b171, q172⟩ := hq
          refine .inr ⟨_, rfl, ?_⟩
          rcases q172 with ⟨rfl, a173⟩ | ⟨rfl, a174⟩
          · have _q : True := trivial
            refine jx_if_eq (pc_q := 116) (tg := 117) rfl rfl rfl (by decide) (by decide) (fun h175 => ?_) (fun h175 => ?_)
            · have _q := h175
              exact absurd h175 (by omega)
            · have _q := h175
              refine jx_rt (v := none) rfl rfl rfl rfl rfl rfl ?_
              exact ⟨_, _, at2_149, fk2_151, sy, na, rfl, rfl, hW152, hF160, hS161, (e154), (e156), ((hF153.1 19 rfl).trans ((hF131.1 19 rfl).trans (e_sy))), ((hF153.1 28 rfl).trans ((hF131.1 28 rfl).trans (e_na))), by omega, by omega, by omega, by omega, by first | exact Or.inl (by omega)⟩
          · have _q : True := trivial
            exfalso
            omega
        · have _q : True := trivial
          refine jx_go (tg := 109) rfl rfl ?_
          exact c_readParameter_at_109 (X := X) (d := d) (c0 := c0) (c1 := c1) (G := G) (A := A) (T := T) (fr := fr) (ln := ln) (le := le) (at0 := at0) (fk := fk) (tk0 := tk0) (sy := sy) (na := na) (hd := hd) (hW := hW) (e_ln := e_ln) (e_le := e_le) (e_at0 := e_at0) (e_fk := e_fk) (e_tk0 := e_tk0) (e_sy := e_sy) (e_na := e_na) (h_fr := h_fr) (p_0 := p_0) (p_1 := p_1) (p_2 := p_2) (p_3 := p_3) L125 G147 A148 (5) (1) (at2_149) (tk2_150) (fk2_151) gL125_0 gL125_1 gL125_2 gL125_3 hW152 hF160 hS161 ((e154)) ((e155)) ((e156)) (((hF153.1 9 rfl).trans ((hF131.1 9 rfl).trans (e_ln)))) (((hF153.1 19 rfl).trans ((hF131.1 19 rfl).trans (e_sy)))) (((hF153.1 28 rfl).trans ((hF131.1 28 rfl).trans (e_na)))) (by omega) (by omega) (by omega) (by omega) (by omega) (by omega)
      · have _q : True := trivial
        refine jx_vr (pc_q := 30) (as := [.int (i32 (0))]) (st := []) rfl rfl rfl rfl ⟨rfl, rfl, Nat.le_of_ble_eq_true rfl⟩ rfl rfl (c_need (dd := d) (hd := by omega) (hW := hW130) (g := 0) (ln := ln) (e_ln := show G126 9 = ln from ((hF131.1 9 rfl).trans (e_ln))) (le := le) (e_le := show A127 4 (ln).toNat = le from (congrFun (hF131.2 4 rfl) _).trans (e_le)) (at0 := at2_128) (e_at0 := show G126 10 = at2_128 from (e132)) (fk := fk) (e_fk := show G126 16 = fk from ((hF131.1 16 rfl).trans (e_fk))) (tk0 := tk2_129) (e_tk0 := show G126 11 = tk2_129 from (e133))  (h_g := ⟨(by decide), (by decide)⟩)  (p_0 := by omega)) (fun o V_q hq => ?_)
        obtain ⟨G176, A177, at2_178, tk2_179, fk2_180, rfl, rfl, hW181, hF182, e183, e184, e185, p186, p187, q188⟩ := hq
        have hF189 := Fr_tr hF138 hF182 (Fr_sub (by decide)) (Fr_sub (by decide))
        have hS190 := Fx_f hS139 hF182 (by decide)
        have bat2_178 : (0 : Int) ≤ at2_178 ∧ at2_178 ≤ 3002 := e183 ▸ hW181.1 10
        have ztk2_179 := tz_b tk2_179
        have btk2_179 : (0 : Int) ≤ tk2_179 ∧ tk2_179 ≤ 5 := e184 ▸ hW181.1 11
        have bfk2_180 : (0 : Int) ≤ fk2_180 ∧ fk2_180 ≤ 6 := e185 ▸ hW181.1 16
        refine .inl ⟨rfl, ?_⟩
        rcases q188 with ⟨a191, a192, a193, a194⟩ | ⟨a195, a196, a197, a198⟩
        · have _q : True := trivial
          refine jx_go (tg := 109) rfl rfl ?_
          refine jx_ld (pc_q := 110) (l_q := L125) (st_q := [.ref 66]) rfl (jl_aloadn gL125_0) ?_
          refine jx_vr (pc_q := 113) (as := []) (st := []) rfl rfl rfl rfl ⟨rfl, rfl, Nat.le_of_ble_eq_true rfl⟩ rfl rfl (c_bad (dd := d) (hd := by omega) (hW := hW181)  (fk := fk2_180) (e_fk := show G176 16 = fk2_180 from (e185))    ) (fun o V_q hq => ?_)
          obtain ⟨r199, rfl, rfl, b200, q201⟩ := hq
          refine .inr ⟨_, rfl, ?_⟩
          rcases q201 with ⟨rfl, a202⟩ | ⟨rfl, a203⟩
          · have _q : True := trivial
            refine jx_if_eq (pc_q := 116) (tg := 117) rfl rfl rfl (by decide) (by decide) (fun h204 => ?_) (fun h204 => ?_)
            · have _q := h204
              exact absurd h204 (by omega)
            · have _q := h204
              refine jx_rt (v := none) rfl rfl rfl rfl rfl rfl ?_
              exact ⟨_, _, at2_178, fk2_180, sy, na, rfl, rfl, hW181, hF189, hS190, (e183), (e185), ((hF182.1 19 rfl).trans ((hF131.1 19 rfl).trans (e_sy))), ((hF182.1 28 rfl).trans ((hF131.1 28 rfl).trans (e_na))), by omega, by omega, by omega, by omega, by first | exact Or.inl (by omega)⟩
          · have _q : True := trivial
            exfalso
            omega
        · have _q : True := trivial
          exfalso
          omega
  · have _q : True := trivial
    refine jx_if_eq (pc_q := 14) (tg := 33) rfl rfl rfl (by decide) (by decide) (fun h205 => ?_) (fun h205 => ?_)
    · have _q := h205
      refine jx_ld (pc_q := 34) (l_q := L116) (st_q := [.ref 66]) rfl (jl_aloadn gL116_0) ?_
      refine jx_ar (pc_q := 36) (st_q := [.int (i32 (10)), .ref 66]) rfl rfl rfl rfl ?_
      refine jx_vr (pc_q := 39) (as := [.int (i32 (10))]) (st := []) rfl rfl rfl rfl ⟨rfl, rfl, Nat.le_of_ble_eq_true rfl⟩ rfl rfl (c_isKey (dd := d) (hd := by omega) (hW := hW) (k := 10) (tk := tk0) (e_tk := show G 11 = tk0 from (e_tk0)) (tn := G 13) (e_tn := show G 13 = G 13 from rfl)  (h_k := ⟨(by decide), (by decide)⟩)  ) (fun o V_q hq => ?_)
      obtain ⟨r206, rfl, rfl, b207, q208⟩ := hq
      refine .inr ⟨_, rfl, ?_⟩
      rcases q208 with ⟨rfl, a209, a210, a211⟩ | rfl
      · have _q : True := trivial
        refine jx_if_eq (pc_q := 42) (tg := 52) rfl rfl rfl (by decide) (by decide) (fun h212 => ?_) (fun h212 => ?_)
        · have _q := h212
          exact absurd h212 (by omega)
        · have _q := h212
          refine jx_ar (pc_q := 44) (st_q := [.int (i32 (8))]) rfl rfl rfl rfl ?_
          refine jx_ld (pc_q := 45) (l_q := jSto1 L116 2 (.int (i32 (8)))) (st_q := []) rfl rfl ?_
          obtain ⟨L213, eL213⟩ : ∃ q, q = jSto1 L116 2 (.int (i32 (8))) := ⟨_, rfl⟩
          rw [← eL213]
          have gL213_0 : jGet L213 0 = some (.ref 66) := eL213 ▸ jg_ne (by decide) gL116_0 rfl
          have gL213_1 : jGet L213 1 = some (.int (i32 (fr))) := eL213 ▸ jg_ne (by decide) gL116_1 rfl
          have gL213_3 : jGet L213 3 = some (.int (i32 (1))) := eL213 ▸ jg_ne (by decide) gL116_3 rfl
          have gL213_2 : jGet L213 2 = some (.int (i32 (8))) := eL213 ▸ jg_eq
          refine jx_ld (pc_q := 46) (l_q := L213) (st_q := [.ref 66]) rfl (jl_aloadn gL213_0) ?_
          refine jx_vr (pc_q := 49) (as := []) (st := []) rfl rfl rfl rfl ⟨rfl, rfl, Nat.le_of_ble_eq_true rfl⟩ rfl rfl (c_next (dd := d) (hd := by omega) (hW := hW)  (ln := ln) (e_ln := show G 9 = ln from (e_ln)) (le := le) (e_le := show A 4 (ln).toNat = le from (e_le)) (at0 := at0) (e_at0 := show G 10 = at0 from (e_at0))    (p_0 := by omega)) (fun o V_q hq => ?_)
          obtain ⟨G214, A215, at2_216, tk2_217, rfl, rfl, hW218, hF219, e220, e221, p222, p223, p224, -⟩ := hq
          have hF226 := Fr_tr hF0 hF219 (Fr_sub (by decide)) (Fr_sub (by decide))
          have hS227 := Fx_f hS0 hF219 (by decide)
          have bat2_216 : (0 : Int) ≤ at2_216 ∧ at2_216 ≤ 3002 := e220 ▸ hW218.1 10
          have ztk2_217 := tz_b tk2_217
          have btk2_217 : (0 : Int) ≤ tk2_217 ∧ tk2_217 ≤ 5 := e221 ▸ hW218.1 11
          refine .inl ⟨rfl, ?_⟩
          refine jx_go (tg := 109) rfl rfl ?_
          exact c_readParameter_at_109 (X := X) (d := d) (c0 := c0) (c1 := c1) (G := G) (A := A) (T := T) (fr := fr) (ln := ln) (le := le) (at0 := at0) (fk := fk) (tk0 := tk0) (sy := sy) (na := na) (hd := hd) (hW := hW) (e_ln := e_ln) (e_le := e_le) (e_at0 := e_at0) (e_fk := e_fk) (e_tk0 := e_tk0) (e_sy := e_sy) (e_na := e_na) (h_fr := h_fr) (p_0 := p_0) (p_1 := p_1) (p_2 := p_2) (p_3 := p_3) L213 G214 A215 (8) (1) (at2_216) (tk2_217) (fk) gL213_0 gL213_1 gL213_2 gL213_3 hW218 hF226 hS227 ((e220)) ((e221)) (((hF219.1 16 rfl).trans (e_fk))) (((hF219.1 9 rfl).trans (e_ln))) (((hF219.1 19 rfl).trans (e_sy))) (((hF219.1 28 rfl).trans (e_na))) (by omega) (by omega) (by omega) (by omega) (by omega) (by omega)
      · have _q : True := trivial
        refine jx_if_eq (pc_q := 42) (tg := 52) rfl rfl rfl (by decide) (by decide) (fun h228 => ?_) (fun h228 => ?_)
        · have _q := h228
          refine jx_ld (pc_q := 53) (l_q := L116) (st_q := [.ref 66]) rfl (jl_aloadn gL116_0) ?_
          refine jx_ar (pc_q := 55) (st_q := [.int (i32 (91)), .ref 66]) rfl rfl rfl rfl ?_
          refine jx_vr (pc_q := 58) (as := [.int (i32 (91))]) (st := []) rfl rfl rfl rfl ⟨rfl, rfl, Nat.le_of_ble_eq_true rfl⟩ rfl rfl (c_is (dd := d) (hd := by omega) (hW := hW) (k := 91) (tk := tk0) (e_tk := show G 11 = tk0 from (e_tk0)) (tn := G 13) (e_tn := show G 13 = G 13 from rfl)  (h_k := ⟨(by decide), (by decide)⟩)  ) (fun o V_q hq => ?_)
          obtain ⟨r229, rfl, rfl, b230, q231⟩ := hq
          refine .inr ⟨_, rfl, ?_⟩
          rcases q231 with ⟨rfl, a232, a233, a234⟩ | rfl
          · have _q : True := trivial
            refine jx_if_eq (pc_q := 61) (tg := 99) rfl rfl rfl (by decide) (by decide) (fun h235 => ?_) (fun h235 => ?_)
            · have _q := h235
              exact absurd h235 (by omega)
            · have _q := h235
              refine jx_ar (pc_q := 63) (st_q := [.int (i32 (7))]) rfl rfl rfl rfl ?_
              refine jx_ld (pc_q := 64) (l_q := jSto1 L116 2 (.int (i32 (7)))) (st_q := []) rfl rfl ?_
              obtain ⟨L236, eL236⟩ : ∃ q, q = jSto1 L116 2 (.int (i32 (7))) := ⟨_, rfl⟩
              rw [← eL236]
              have gL236_0 : jGet L236 0 = some (.ref 66) := eL236 ▸ jg_ne (by decide) gL116_0 rfl
              have gL236_1 : jGet L236 1 = some (.int (i32 (fr))) := eL236 ▸ jg_ne (by decide) gL116_1 rfl
              have gL236_3 : jGet L236 3 = some (.int (i32 (1))) := eL236 ▸ jg_ne (by decide) gL116_3 rfl
              have gL236_2 : jGet L236 2 = some (.int (i32 (7))) := eL236 ▸ jg_eq
              refine jx_ld (pc_q := 65) (l_q := L236) (st_q := [.ref 66]) rfl (jl_aloadn gL236_0) ?_
              refine jx_vr (pc_q := 68) (as := []) (st := []) rfl rfl rfl rfl ⟨rfl, rfl, Nat.le_of_ble_eq_true rfl⟩ rfl rfl (c_next (dd := d) (hd := by omega) (hW := hW)  (ln := ln) (e_ln := show G 9 = ln from (e_ln)) (le := le) (e_le := show A 4 (ln).toNat = le from (e_le)) (at0 := at0) (e_at0 := show G 10 = at0 from (e_at0))    (p_0 := by omega)) (fun o V_q hq => ?_)
              obtain ⟨G237, A238, at2_239, tk2_240, rfl, rfl, hW241, hF242, e243, e244, p245, p246, p247, -⟩ := hq
              have hF249 := Fr_tr hF0 hF242 (Fr_sub (by decide)) (Fr_sub (by decide))
              have hS250 := Fx_f hS0 hF242 (by decide)
              have bat2_239 : (0 : Int) ≤ at2_239 ∧ at2_239 ≤ 3002 := e243 ▸ hW241.1 10
              have ztk2_240 := tz_b tk2_240
              have btk2_240 : (0 : Int) ≤ tk2_240 ∧ tk2_240 ≤ 5 := e244 ▸ hW241.1 11
              refine .inl ⟨rfl, ?_⟩
              refine jx_ld (pc_q := 69) (l_q := L236) (st_q := [.ref 66]) rfl (jl_aloadn gL236_0) ?_
              refine jx_ar (pc_q := 70) (st_q := [.int (i32 (1)), .ref 66]) rfl rfl rfl rfl ?_
              refine jx_ar (pc_q := 72) (st_q := [.int (i32 (64)), .int (i32 (1)), .ref 66]) rfl rfl rfl rfl ?_
              refine jx_vr (pc_q := 75) (as := [.int (i32 (1)), .int (i32 (64))]) (st := []) rfl rfl rfl rfl ⟨rfl, rfl, Nat.le_of_ble_eq_true rfl⟩ rfl rfl (c_needNumber (dd := d) (hd := by omega) (hW := hW241) (lo := 1) (hi := 64) (ln := ln) (e_ln := show G237 9 = ln from ((hF242.1 9 rfl).trans (e_ln))) (le := le) (e_le := show A238 4 (ln).toNat = le from (congrFun (hF242.2 4 rfl) _).trans (e_le)) (at0 := at2_239) (e_at0 := show G237 10 = at2_239 from (e243)) (fk := fk) (e_fk := show G237 16 = fk from ((hF242.1 16 rfl).trans (e_fk))) (tk0 := tk2_240) (e_tk0 := show G237 11 = tk2_240 from (e244))  (h_lo := ⟨(by decide), (by decide)⟩) (h_hi := ⟨(by decide), (by decide)⟩)  (p_0 := by omega)) (fun o V_q hq => ?_)
              obtain ⟨G251, A252, r253, at2_254, tk2_255, fk2_256, rfl, rfl, hW257, hF258, b259, e260, e261, e262, p263, p264, q265⟩ := hq
              have hF266 := Fr_tr hF249 hF258 (Fr_sub (by decide)) (Fr_sub (by decide))
              have hS267 := Fx_f hS250 hF258 (by decide)
              have bat2_254 : (0 : Int) ≤ at2_254 ∧ at2_254 ≤ 3002 := e260 ▸ hW257.1 10
              have ztk2_255 := tz_b tk2_255
              have btk2_255 : (0 : Int) ≤ tk2_255 ∧ tk2_255 ≤ 5 := e261 ▸ hW257.1 11
              have bfk2_256 : (0 : Int) ≤ fk2_256 ∧ fk2_256 ≤ 6 := e262 ▸ hW257.1 16
              refine .inr ⟨_, rfl, ?_⟩
              rcases q265 with ⟨a268, a269, a270, a271⟩ | ⟨a272, a273, a274, a275, a276⟩
              · have _q : True := trivial
                refine jx_ld (pc_q := 76) (l_q := jSto1 L236 3 (.int (i32 (r253)))) (st_q := []) rfl rfl ?_
                obtain ⟨L277, eL277⟩ : ∃ q, q = jSto1 L236 3 (.int (i32 (r253))) := ⟨_, rfl⟩
                rw [← eL277]
                have gL277_0 : jGet L277 0 = some (.ref 66) := eL277 ▸ jg_ne (by decide) gL236_0 rfl
                have gL277_1 : jGet L277 1 = some (.int (i32 (fr))) := eL277 ▸ jg_ne (by decide) gL236_1 rfl
                have gL277_2 : jGet L277 2 = some (.int (i32 (7))) := eL277 ▸ jg_ne (by decide) gL236_2 rfl
                have gL277_3 : jGet L277 3 = some (.int (i32 (r253))) := eL277 ▸ jg_eq
                refine jx_ld (pc_q := 77) (l_q := L277) (st_q := [.ref 66]) rfl (jl_aloadn gL277_0) ?_
                refine jx_ld (pc_q := 78) (l_q := L277) (st_q := [.ref 66, .ref 66]) rfl (jl_aloadn gL277_0) ?_
                refine jx_ar (pc_q := 80) (st_q := [.int (i32 (93)), .ref 66, .ref 66]) rfl rfl rfl rfl ?_
                have b278 : (-2147483648 : Int) ≤ G251 13 ∧ G251 13 ≤ 2147483647 := hW257.1 13
                refine jx_vr (pc_q := 83) (as := [.int (i32 (93))]) (st := [.ref 66]) rfl rfl rfl rfl ⟨rfl, rfl, Nat.le_of_ble_eq_true rfl⟩ rfl rfl (c_is (dd := d) (hd := by omega) (hW := hW257) (k := 93) (tk := tk2_255) (e_tk := show G251 11 = tk2_255 from (e261)) (tn := G251 13) (e_tn := show G251 13 = G251 13 from rfl)  (h_k := ⟨(by decide), (by decide)⟩)  ) (fun o V_q hq => ?_)
                obtain ⟨r279, rfl, rfl, b280, q281⟩ := hq
                refine .inr ⟨_, rfl, ?_⟩
                rcases q281 with ⟨rfl, a282, a283, a284⟩ | rfl
                · have _q : True := trivial
                  refine jx_vr (pc_q := 86) (as := [.int (i32 (1))]) (st := []) rfl rfl rfl rfl ⟨rfl, rfl, Nat.le_of_ble_eq_true rfl⟩ rfl rfl (c_need (dd := d) (hd := by omega) (hW := hW257) (g := 1) (ln := ln) (e_ln := show G251 9 = ln from ((hF258.1 9 rfl).trans ((hF242.1 9 rfl).trans (e_ln)))) (le := le) (e_le := show A252 4 (ln).toNat = le from (congrFun ((hF258.2 4 rfl).trans (hF242.2 4 rfl)) _).trans (e_le)) (at0 := at2_254) (e_at0 := show G251 10 = at2_254 from (e260)) (fk := fk2_256) (e_fk := show G251 16 = fk2_256 from (e262)) (tk0 := tk2_255) (e_tk0 := show G251 11 = tk2_255 from (e261))  (h_g := ⟨(by decide), (by decide)⟩)  (p_0 := by omega)) (fun o V_q hq => ?_)
                  obtain ⟨G285, A286, at2_287, tk2_288, fk2_289, rfl, rfl, hW290, hF291, e292, e293, e294, p295, p296, q297⟩ := hq
                  have hF298 := Fr_tr hF266 hF291 (Fr_sub (by decide)) (Fr_sub (by decide))
                  have hS299 := Fx_f hS267 hF291 (by decide)
                  have bat2_287 : (0 : Int) ≤ at2_287 ∧ at2_287 ≤ 3002 := e292 ▸ hW290.1 10
                  have ztk2_288 := tz_b tk2_288
                  have btk2_288 : (0 : Int) ≤ tk2_288 ∧ tk2_288 ≤ 5 := e293 ▸ hW290.1 11
                  have bfk2_289 : (0 : Int) ≤ fk2_289 ∧ fk2_289 ≤ 6 := e294 ▸ hW290.1 16
                  refine .inl ⟨rfl, ?_⟩
                  rcases q297 with ⟨a300, a301, a302, a303⟩ | ⟨a304, a305, a306, a307⟩
                  · have _q : True := trivial
                    refine jx_ld (pc_q := 87) (l_q := L277) (st_q := [.ref 66]) rfl (jl_aloadn gL277_0) ?_
                    refine jx_ld (pc_q := 88) (l_q := L277) (st_q := [.ref 66, .ref 66]) rfl (jl_aloadn gL277_0) ?_
                    refine jx_ar (pc_q := 90) (st_q := [.int (i32 (9)), .ref 66, .ref 66]) rfl rfl rfl rfl ?_
                    have b308 : (-2147483648 : Int) ≤ G285 13 ∧ G285 13 ≤ 2147483647 := hW290.1 13
                    refine jx_vr (pc_q := 93) (as := [.int (i32 (9))]) (st := [.ref 66]) rfl rfl rfl rfl ⟨rfl, rfl, Nat.le_of_ble_eq_true rfl⟩ rfl rfl (c_isKey (dd := d) (hd := by omega) (hW := hW290) (k := 9) (tk := tk2_288) (e_tk := show G285 11 = tk2_288 from (e293)) (tn := G285 13) (e_tn := show G285 13 = G285 13 from rfl)  (h_k := ⟨(by decide), (by decide)⟩)  ) (fun o V_q hq => ?_)
                    obtain ⟨r309, rfl, rfl, b310, q311⟩ := hq
                    refine .inr ⟨_, rfl, ?_⟩
                    rcases q311 with ⟨rfl, a312, a313, a314⟩ | rfl
                    · have _q : True := trivial
                      refine jx_vr (pc_q := 96) (as := [.int (i32 (1))]) (st := []) rfl rfl rfl rfl ⟨rfl, rfl, Nat.le_of_ble_eq_true rfl⟩ rfl rfl (c_need (dd := d) (hd := by omega) (hW := hW290) (g := 1) (ln := ln) (e_ln := show G285 9 = ln from ((hF291.1 9 rfl).trans ((hF258.1 9 rfl).trans ((hF242.1 9 rfl).trans (e_ln))))) (le := le) (e_le := show A286 4 (ln).toNat = le from (congrFun ((hF291.2 4 rfl).trans ((hF258.2 4 rfl).trans (hF242.2 4 rfl))) _).trans (e_le)) (at0 := at2_287) (e_at0 := show G285 10 = at2_287 from (e292)) (fk := fk2_289) (e_fk := show G285 16 = fk2_289 from (e294)) (tk0 := tk2_288) (e_tk0 := show G285 11 = tk2_288 from (e293))  (h_g := ⟨(by decide), (by decide)⟩)  (p_0 := by omega)) (fun o V_q hq => ?_)
                      obtain ⟨G315, A316, at2_317, tk2_318, fk2_319, rfl, rfl, hW320, hF321, e322, e323, e324, p325, p326, q327⟩ := hq
                      have hF328 := Fr_tr hF298 hF321 (Fr_sub (by decide)) (Fr_sub (by decide))
                      have hS329 := Fx_f hS299 hF321 (by decide)
                      have bat2_317 : (0 : Int) ≤ at2_317 ∧ at2_317 ≤ 3002 := e322 ▸ hW320.1 10
                      have ztk2_318 := tz_b tk2_318
                      have btk2_318 : (0 : Int) ≤ tk2_318 ∧ tk2_318 ≤ 5 := e323 ▸ hW320.1 11
                      have bfk2_319 : (0 : Int) ≤ fk2_319 ∧ fk2_319 ≤ 6 := e324 ▸ hW320.1 16
                      refine .inl ⟨rfl, ?_⟩
                      rcases q327 with ⟨a330, a331, a332, a333⟩ | ⟨a334, a335, a336, a337⟩
                      · have _q : True := trivial
                        refine jx_go (tg := 109) rfl rfl ?_
                        refine jx_ld (pc_q := 110) (l_q := L277) (st_q := [.ref 66]) rfl (jl_aloadn gL277_0) ?_
                        refine jx_vr (pc_q := 113) (as := []) (st := []) rfl rfl rfl rfl ⟨rfl, rfl, Nat.le_of_ble_eq_true rfl⟩ rfl rfl (c_bad (dd := d) (hd := by omega) (hW := hW320)  (fk := fk2_319) (e_fk := show G315 16 = fk2_319 from (e324))    ) (fun o V_q hq => ?_)
                        obtain ⟨r338, rfl, rfl, b339, q340⟩ := hq
                        refine .inr ⟨_, rfl, ?_⟩
                        rcases q340 with ⟨rfl, a341⟩ | ⟨rfl, a342⟩
                        · have _q : True := trivial
                          refine jx_if_eq (pc_q := 116) (tg := 117) rfl rfl rfl (by decide) (by decide) (fun h343 => ?_) (fun h343 => ?_)
                          · have _q := h343
                            exact absurd h343 (by omega)
                          · have _q := h343
                            refine jx_rt (v := none) rfl rfl rfl rfl rfl rfl ?_
                            exact ⟨_, _, at2_317, fk2_319, sy, na, rfl, rfl, hW320, hF328, hS329, (e322), (e324), ((hF321.1 19 rfl).trans ((hF291.1 19 rfl).trans ((hF258.1 19 rfl).trans ((hF242.1 19 rfl).trans (e_sy))))), ((hF321.1 28 rfl).trans ((hF291.1 28 rfl).trans ((hF258.1 28 rfl).trans ((hF242.1 28 rfl).trans (e_na))))), by omega, by omega, by omega, by omega, by first | exact Or.inl (by omega)⟩
                        · have _q : True := trivial
                          exfalso
                          omega
                      · have _q : True := trivial
                        exfalso
                        omega
                    · have _q : True := trivial
                      refine jx_vr (pc_q := 96) (as := [.int (i32 (0))]) (st := []) rfl rfl rfl rfl ⟨rfl, rfl, Nat.le_of_ble_eq_true rfl⟩ rfl rfl (c_need (dd := d) (hd := by omega) (hW := hW290) (g := 0) (ln := ln) (e_ln := show G285 9 = ln from ((hF291.1 9 rfl).trans ((hF258.1 9 rfl).trans ((hF242.1 9 rfl).trans (e_ln))))) (le := le) (e_le := show A286 4 (ln).toNat = le from (congrFun ((hF291.2 4 rfl).trans ((hF258.2 4 rfl).trans (hF242.2 4 rfl))) _).trans (e_le)) (at0 := at2_287) (e_at0 := show G285 10 = at2_287 from (e292)) (fk := fk2_289) (e_fk := show G285 16 = fk2_289 from (e294)) (tk0 := tk2_288) (e_tk0 := show G285 11 = tk2_288 from (e293))  (h_g := ⟨(by decide), (by decide)⟩)  (p_0 := by omega)) (fun o V_q hq => ?_)
                      obtain ⟨G344, A345, at2_346, tk2_347, fk2_348, rfl, rfl, hW349, hF350, e351, e352, e353, p354, p355, q356⟩ := hq
                      have hF357 := Fr_tr hF298 hF350 (Fr_sub (by decide)) (Fr_sub (by decide))
                      have hS358 := Fx_f hS299 hF350 (by decide)
                      have bat2_346 : (0 : Int) ≤ at2_346 ∧ at2_346 ≤ 3002 := e351 ▸ hW349.1 10
                      have ztk2_347 := tz_b tk2_347
                      have btk2_347 : (0 : Int) ≤ tk2_347 ∧ tk2_347 ≤ 5 := e352 ▸ hW349.1 11
                      have bfk2_348 : (0 : Int) ≤ fk2_348 ∧ fk2_348 ≤ 6 := e353 ▸ hW349.1 16
                      refine .inl ⟨rfl, ?_⟩
                      rcases q356 with ⟨a359, a360, a361, a362⟩ | ⟨a363, a364, a365, a366⟩
                      · have _q : True := trivial
                        refine jx_go (tg := 109) rfl rfl ?_
                        refine jx_ld (pc_q := 110) (l_q := L277) (st_q := [.ref 66]) rfl (jl_aloadn gL277_0) ?_
                        refine jx_vr (pc_q := 113) (as := []) (st := []) rfl rfl rfl rfl ⟨rfl, rfl, Nat.le_of_ble_eq_true rfl⟩ rfl rfl (c_bad (dd := d) (hd := by omega) (hW := hW349)  (fk := fk2_348) (e_fk := show G344 16 = fk2_348 from (e353))    ) (fun o V_q hq => ?_)
                        obtain ⟨r367, rfl, rfl, b368, q369⟩ := hq
                        refine .inr ⟨_, rfl, ?_⟩
                        rcases q369 with ⟨rfl, a370⟩ | ⟨rfl, a371⟩
                        · have _q : True := trivial
                          refine jx_if_eq (pc_q := 116) (tg := 117) rfl rfl rfl (by decide) (by decide) (fun h372 => ?_) (fun h372 => ?_)
                          · have _q := h372
                            exact absurd h372 (by omega)
                          · have _q := h372
                            refine jx_rt (v := none) rfl rfl rfl rfl rfl rfl ?_
                            exact ⟨_, _, at2_346, fk2_348, sy, na, rfl, rfl, hW349, hF357, hS358, (e351), (e353), ((hF350.1 19 rfl).trans ((hF291.1 19 rfl).trans ((hF258.1 19 rfl).trans ((hF242.1 19 rfl).trans (e_sy))))), ((hF350.1 28 rfl).trans ((hF291.1 28 rfl).trans ((hF258.1 28 rfl).trans ((hF242.1 28 rfl).trans (e_na))))), by omega, by omega, by omega, by omega, by first | exact Or.inl (by omega)⟩
                        · have _q : True := trivial
                          exfalso
                          omega
                      · have _q : True := trivial
                        exfalso
                        omega
                  · have _q : True := trivial
                    exfalso
                    omega
                · have _q : True := trivial
                  refine jx_vr (pc_q := 86) (as := [.int (i32 (0))]) (st := []) rfl rfl rfl rfl ⟨rfl, rfl, Nat.le_of_ble_eq_true rfl⟩ rfl rfl (c_need (dd := d) (hd := by omega) (hW := hW257) (g := 0) (ln := ln) (e_ln := show G251 9 = ln from ((hF258.1 9 rfl).trans ((hF242.1 9 rfl).trans (e_ln)))) (le := le) (e_le := show A252 4 (ln).toNat = le from (congrFun ((hF258.2 4 rfl).trans (hF242.2 4 rfl)) _).trans (e_le)) (at0 := at2_254) (e_at0 := show G251 10 = at2_254 from (e260)) (fk := fk2_256) (e_fk := show G251 16 = fk2_256 from (e262)) (tk0 := tk2_255) (e_tk0 := show G251 11 = tk2_255 from (e261))  (h_g := ⟨(by decide), (by decide)⟩)  (p_0 := by omega)) (fun o V_q hq => ?_)
                  obtain ⟨G373, A374, at2_375, tk2_376, fk2_377, rfl, rfl, hW378, hF379, e380, e381, e382, p383, p384, q385⟩ := hq
                  have hF386 := Fr_tr hF266 hF379 (Fr_sub (by decide)) (Fr_sub (by decide))
                  have hS387 := Fx_f hS267 hF379 (by decide)
                  have bat2_375 : (0 : Int) ≤ at2_375 ∧ at2_375 ≤ 3002 := e380 ▸ hW378.1 10
                  have ztk2_376 := tz_b tk2_376
                  have btk2_376 : (0 : Int) ≤ tk2_376 ∧ tk2_376 ≤ 5 := e381 ▸ hW378.1 11
                  have bfk2_377 : (0 : Int) ≤ fk2_377 ∧ fk2_377 ≤ 6 := e382 ▸ hW378.1 16
                  refine .inl ⟨rfl, ?_⟩
                  rcases q385 with ⟨a388, a389, a390, a391⟩ | ⟨a392, a393, a394, a395⟩
                  · have _q : True := trivial
                    refine jx_ld (pc_q := 87) (l_q := L277) (st_q := [.ref 66]) rfl (jl_aloadn gL277_0) ?_
                    refine jx_ld (pc_q := 88) (l_q := L277) (st_q := [.ref 66, .ref 66]) rfl (jl_aloadn gL277_0) ?_
                    refine jx_ar (pc_q := 90) (st_q := [.int (i32 (9)), .ref 66, .ref 66]) rfl rfl rfl rfl ?_
                    have b396 : (-2147483648 : Int) ≤ G373 13 ∧ G373 13 ≤ 2147483647 := hW378.1 13
                    refine jx_vr (pc_q := 93) (as := [.int (i32 (9))]) (st := [.ref 66]) rfl rfl rfl rfl ⟨rfl, rfl, Nat.le_of_ble_eq_true rfl⟩ rfl rfl (c_isKey (dd := d) (hd := by omega) (hW := hW378) (k := 9) (tk := tk2_376) (e_tk := show G373 11 = tk2_376 from (e381)) (tn := G373 13) (e_tn := show G373 13 = G373 13 from rfl)  (h_k := ⟨(by decide), (by decide)⟩)  ) (fun o V_q hq => ?_)
                    obtain ⟨r397, rfl, rfl, b398, q399⟩ := hq
                    refine .inr ⟨_, rfl, ?_⟩
                    rcases q399 with ⟨rfl, a400, a401, a402⟩ | rfl
                    · have _q : True := trivial
                      refine jx_vr (pc_q := 96) (as := [.int (i32 (1))]) (st := []) rfl rfl rfl rfl ⟨rfl, rfl, Nat.le_of_ble_eq_true rfl⟩ rfl rfl (c_need (dd := d) (hd := by omega) (hW := hW378) (g := 1) (ln := ln) (e_ln := show G373 9 = ln from ((hF379.1 9 rfl).trans ((hF258.1 9 rfl).trans ((hF242.1 9 rfl).trans (e_ln))))) (le := le) (e_le := show A374 4 (ln).toNat = le from (congrFun ((hF379.2 4 rfl).trans ((hF258.2 4 rfl).trans (hF242.2 4 rfl))) _).trans (e_le)) (at0 := at2_375) (e_at0 := show G373 10 = at2_375 from (e380)) (fk := fk2_377) (e_fk := show G373 16 = fk2_377 from (e382)) (tk0 := tk2_376) (e_tk0 := show G373 11 = tk2_376 from (e381))  (h_g := ⟨(by decide), (by decide)⟩)  (p_0 := by omega)) (fun o V_q hq => ?_)
                      obtain ⟨G403, A404, at2_405, tk2_406, fk2_407, rfl, rfl, hW408, hF409, e410, e411, e412, p413, p414, q415⟩ := hq
                      have hF416 := Fr_tr hF386 hF409 (Fr_sub (by decide)) (Fr_sub (by decide))
                      have hS417 := Fx_f hS387 hF409 (by decide)
                      have bat2_405 : (0 : Int) ≤ at2_405 ∧ at2_405 ≤ 3002 := e410 ▸ hW408.1 10
                      have ztk2_406 := tz_b tk2_406
                      have btk2_406 : (0 : Int) ≤ tk2_406 ∧ tk2_406 ≤ 5 := e411 ▸ hW408.1 11
                      have bfk2_407 : (0 : Int) ≤ fk2_407 ∧ fk2_407 ≤ 6 := e412 ▸ hW408.1 16
                      refine .inl ⟨rfl, ?_⟩
                      rcases q415 with ⟨a418, a419, a420, a421⟩ | ⟨a422, a423, a424, a425⟩
                      · have _q : True := trivial
                        refine jx_go (tg := 109) rfl rfl ?_
                        refine jx_ld (pc_q := 110) (l_q := L277) (st_q := [.ref 66]) rfl (jl_aloadn gL277_0) ?_
                        refine jx_vr (pc_q := 113) (as := []) (st := []) rfl rfl rfl rfl ⟨rfl, rfl, Nat.le_of_ble_eq_true rfl⟩ rfl rfl (c_bad (dd := d) (hd := by omega) (hW := hW408)  (fk := fk2_407) (e_fk := show G403 16 = fk2_407 from (e412))    ) (fun o V_q hq => ?_)
                        obtain ⟨r426, rfl, rfl, b427, q428⟩ := hq
                        refine .inr ⟨_, rfl, ?_⟩
                        rcases q428 with ⟨rfl, a429⟩ | ⟨rfl, a430⟩
                        · have _q : True := trivial
                          refine jx_if_eq (pc_q := 116) (tg := 117) rfl rfl rfl (by decide) (by decide) (fun h431 => ?_) (fun h431 => ?_)
                          · have _q := h431
                            exact absurd h431 (by omega)
                          · have _q := h431
                            refine jx_rt (v := none) rfl rfl rfl rfl rfl rfl ?_
                            exact ⟨_, _, at2_405, fk2_407, sy, na, rfl, rfl, hW408, hF416, hS417, (e410), (e412), ((hF409.1 19 rfl).trans ((hF379.1 19 rfl).trans ((hF258.1 19 rfl).trans ((hF242.1 19 rfl).trans (e_sy))))), ((hF409.1 28 rfl).trans ((hF379.1 28 rfl).trans ((hF258.1 28 rfl).trans ((hF242.1 28 rfl).trans (e_na))))), by omega, by omega, by omega, by omega, by first | exact Or.inl (by omega)⟩
                        · have _q : True := trivial
                          exfalso
                          omega
                      · have _q : True := trivial
                        exfalso
                        omega
                    · have _q : True := trivial
                      refine jx_vr (pc_q := 96) (as := [.int (i32 (0))]) (st := []) rfl rfl rfl rfl ⟨rfl, rfl, Nat.le_of_ble_eq_true rfl⟩ rfl rfl (c_need (dd := d) (hd := by omega) (hW := hW378) (g := 0) (ln := ln) (e_ln := show G373 9 = ln from ((hF379.1 9 rfl).trans ((hF258.1 9 rfl).trans ((hF242.1 9 rfl).trans (e_ln))))) (le := le) (e_le := show A374 4 (ln).toNat = le from (congrFun ((hF379.2 4 rfl).trans ((hF258.2 4 rfl).trans (hF242.2 4 rfl))) _).trans (e_le)) (at0 := at2_375) (e_at0 := show G373 10 = at2_375 from (e380)) (fk := fk2_377) (e_fk := show G373 16 = fk2_377 from (e382)) (tk0 := tk2_376) (e_tk0 := show G373 11 = tk2_376 from (e381))  (h_g := ⟨(by decide), (by decide)⟩)  (p_0 := by omega)) (fun o V_q hq => ?_)
                      obtain ⟨G432, A433, at2_434, tk2_435, fk2_436, rfl, rfl, hW437, hF438, e439, e440, e441, p442, p443, q444⟩ := hq
                      have hF445 := Fr_tr hF386 hF438 (Fr_sub (by decide)) (Fr_sub (by decide))
                      have hS446 := Fx_f hS387 hF438 (by decide)
                      have bat2_434 : (0 : Int) ≤ at2_434 ∧ at2_434 ≤ 3002 := e439 ▸ hW437.1 10
                      have ztk2_435 := tz_b tk2_435
                      have btk2_435 : (0 : Int) ≤ tk2_435 ∧ tk2_435 ≤ 5 := e440 ▸ hW437.1 11
                      have bfk2_436 : (0 : Int) ≤ fk2_436 ∧ fk2_436 ≤ 6 := e441 ▸ hW437.1 16
                      refine .inl ⟨rfl, ?_⟩
                      rcases q444 with ⟨a447, a448, a449, a450⟩ | ⟨a451, a452, a453, a454⟩
                      · have _q : True := trivial
                        refine jx_go (tg := 109) rfl rfl ?_
                        refine jx_ld (pc_q := 110) (l_q := L277) (st_q := [.ref 66]) rfl (jl_aloadn gL277_0) ?_
                        refine jx_vr (pc_q := 113) (as := []) (st := []) rfl rfl rfl rfl ⟨rfl, rfl, Nat.le_of_ble_eq_true rfl⟩ rfl rfl (c_bad (dd := d) (hd := by omega) (hW := hW437)  (fk := fk2_436) (e_fk := show G432 16 = fk2_436 from (e441))    ) (fun o V_q hq => ?_)
                        obtain ⟨r455, rfl, rfl, b456, q457⟩ := hq
                        refine .inr ⟨_, rfl, ?_⟩
                        rcases q457 with ⟨rfl, a458⟩ | ⟨rfl, a459⟩
                        · have _q : True := trivial
                          refine jx_if_eq (pc_q := 116) (tg := 117) rfl rfl rfl (by decide) (by decide) (fun h460 => ?_) (fun h460 => ?_)
                          · have _q := h460
                            exact absurd h460 (by omega)
                          · have _q := h460
                            refine jx_rt (v := none) rfl rfl rfl rfl rfl rfl ?_
                            exact ⟨_, _, at2_434, fk2_436, sy, na, rfl, rfl, hW437, hF445, hS446, (e439), (e441), ((hF438.1 19 rfl).trans ((hF379.1 19 rfl).trans ((hF258.1 19 rfl).trans ((hF242.1 19 rfl).trans (e_sy))))), ((hF438.1 28 rfl).trans ((hF379.1 28 rfl).trans ((hF258.1 28 rfl).trans ((hF242.1 28 rfl).trans (e_na))))), by omega, by omega, by omega, by omega, by first | exact Or.inl (by omega)⟩
                        · have _q : True := trivial
                          exfalso
                          omega
                      · have _q : True := trivial
                        exfalso
                        omega
                  · have _q : True := trivial
                    exfalso
                    omega
              · have _q : True := trivial
                refine jx_ld (pc_q := 76) (l_q := jSto1 L236 3 (.int (i32 (r253)))) (st_q := []) rfl rfl ?_
                obtain ⟨L461, eL461⟩ : ∃ q, q = jSto1 L236 3 (.int (i32 (r253))) := ⟨_, rfl⟩
                rw [← eL461]
                have gL461_0 : jGet L461 0 = some (.ref 66) := eL461 ▸ jg_ne (by decide) gL236_0 rfl
                have gL461_1 : jGet L461 1 = some (.int (i32 (fr))) := eL461 ▸ jg_ne (by decide) gL236_1 rfl
                have gL461_2 : jGet L461 2 = some (.int (i32 (7))) := eL461 ▸ jg_ne (by decide) gL236_2 rfl
                have gL461_3 : jGet L461 3 = some (.int (i32 (r253))) := eL461 ▸ jg_eq
                refine jx_ld (pc_q := 77) (l_q := L461) (st_q := [.ref 66]) rfl (jl_aloadn gL461_0) ?_
                refine jx_ld (pc_q := 78) (l_q := L461) (st_q := [.ref 66, .ref 66]) rfl (jl_aloadn gL461_0) ?_
                refine jx_ar (pc_q := 80) (st_q := [.int (i32 (93)), .ref 66, .ref 66]) rfl rfl rfl rfl ?_
                have b462 : (-2147483648 : Int) ≤ G251 13 ∧ G251 13 ≤ 2147483647 := hW257.1 13
                refine jx_vr (pc_q := 83) (as := [.int (i32 (93))]) (st := [.ref 66]) rfl rfl rfl rfl ⟨rfl, rfl, Nat.le_of_ble_eq_true rfl⟩ rfl rfl (c_is (dd := d) (hd := by omega) (hW := hW257) (k := 93) (tk := tk2_255) (e_tk := show G251 11 = tk2_255 from (e261)) (tn := G251 13) (e_tn := show G251 13 = G251 13 from rfl)  (h_k := ⟨(by decide), (by decide)⟩)  ) (fun o V_q hq => ?_)
                obtain ⟨r463, rfl, rfl, b464, q465⟩ := hq
                refine .inr ⟨_, rfl, ?_⟩
                rcases q465 with ⟨rfl, a466, a467, a468⟩ | rfl
                · have _q : True := trivial
                  refine jx_vr (pc_q := 86) (as := [.int (i32 (1))]) (st := []) rfl rfl rfl rfl ⟨rfl, rfl, Nat.le_of_ble_eq_true rfl⟩ rfl rfl (c_need (dd := d) (hd := by omega) (hW := hW257) (g := 1) (ln := ln) (e_ln := show G251 9 = ln from ((hF258.1 9 rfl).trans ((hF242.1 9 rfl).trans (e_ln)))) (le := le) (e_le := show A252 4 (ln).toNat = le from (congrFun ((hF258.2 4 rfl).trans (hF242.2 4 rfl)) _).trans (e_le)) (at0 := at2_254) (e_at0 := show G251 10 = at2_254 from (e260)) (fk := fk2_256) (e_fk := show G251 16 = fk2_256 from (e262)) (tk0 := tk2_255) (e_tk0 := show G251 11 = tk2_255 from (e261))  (h_g := ⟨(by decide), (by decide)⟩)  (p_0 := by omega)) (fun o V_q hq => ?_)
                  obtain ⟨G469, A470, at2_471, tk2_472, fk2_473, rfl, rfl, hW474, hF475, e476, e477, e478, p479, p480, q481⟩ := hq
                  have hF482 := Fr_tr hF266 hF475 (Fr_sub (by decide)) (Fr_sub (by decide))
                  have hS483 := Fx_f hS267 hF475 (by decide)
                  have bat2_471 : (0 : Int) ≤ at2_471 ∧ at2_471 ≤ 3002 := e476 ▸ hW474.1 10
                  have ztk2_472 := tz_b tk2_472
                  have btk2_472 : (0 : Int) ≤ tk2_472 ∧ tk2_472 ≤ 5 := e477 ▸ hW474.1 11
                  have bfk2_473 : (0 : Int) ≤ fk2_473 ∧ fk2_473 ≤ 6 := e478 ▸ hW474.1 16
                  refine .inl ⟨rfl, ?_⟩
                  rcases q481 with ⟨a484, a485, a486, a487⟩ | ⟨a488, a489, a490, a491⟩
                  · have _q : True := trivial
                    refine jx_ld (pc_q := 87) (l_q := L461) (st_q := [.ref 66]) rfl (jl_aloadn gL461_0) ?_
                    refine jx_ld (pc_q := 88) (l_q := L461) (st_q := [.ref 66, .ref 66]) rfl (jl_aloadn gL461_0) ?_
                    refine jx_ar (pc_q := 90) (st_q := [.int (i32 (9)), .ref 66, .ref 66]) rfl rfl rfl rfl ?_
                    have b492 : (-2147483648 : Int) ≤ G469 13 ∧ G469 13 ≤ 2147483647 := hW474.1 13
                    refine jx_vr (pc_q := 93) (as := [.int (i32 (9))]) (st := [.ref 66]) rfl rfl rfl rfl ⟨rfl, rfl, Nat.le_of_ble_eq_true rfl⟩ rfl rfl (c_isKey (dd := d) (hd := by omega) (hW := hW474) (k := 9) (tk := tk2_472) (e_tk := show G469 11 = tk2_472 from (e477)) (tn := G469 13) (e_tn := show G469 13 = G469 13 from rfl)  (h_k := ⟨(by decide), (by decide)⟩)  ) (fun o V_q hq => ?_)
                    obtain ⟨r493, rfl, rfl, b494, q495⟩ := hq
                    refine .inr ⟨_, rfl, ?_⟩
                    rcases q495 with ⟨rfl, a496, a497, a498⟩ | rfl
                    · have _q : True := trivial
                      refine jx_vr (pc_q := 96) (as := [.int (i32 (1))]) (st := []) rfl rfl rfl rfl ⟨rfl, rfl, Nat.le_of_ble_eq_true rfl⟩ rfl rfl (c_need (dd := d) (hd := by omega) (hW := hW474) (g := 1) (ln := ln) (e_ln := show G469 9 = ln from ((hF475.1 9 rfl).trans ((hF258.1 9 rfl).trans ((hF242.1 9 rfl).trans (e_ln))))) (le := le) (e_le := show A470 4 (ln).toNat = le from (congrFun ((hF475.2 4 rfl).trans ((hF258.2 4 rfl).trans (hF242.2 4 rfl))) _).trans (e_le)) (at0 := at2_471) (e_at0 := show G469 10 = at2_471 from (e476)) (fk := fk2_473) (e_fk := show G469 16 = fk2_473 from (e478)) (tk0 := tk2_472) (e_tk0 := show G469 11 = tk2_472 from (e477))  (h_g := ⟨(by decide), (by decide)⟩)  (p_0 := by omega)) (fun o V_q hq => ?_)
                      obtain ⟨G499, A500, at2_501, tk2_502, fk2_503, rfl, rfl, hW504, hF505, e506, e507, e508, p509, p510, q511⟩ := hq
                      have hF512 := Fr_tr hF482 hF505 (Fr_sub (by decide)) (Fr_sub (by decide))
                      have hS513 := Fx_f hS483 hF505 (by decide)
                      have bat2_501 : (0 : Int) ≤ at2_501 ∧ at2_501 ≤ 3002 := e506 ▸ hW504.1 10
                      have ztk2_502 := tz_b tk2_502
                      have btk2_502 : (0 : Int) ≤ tk2_502 ∧ tk2_502 ≤ 5 := e507 ▸ hW504.1 11
                      have bfk2_503 : (0 : Int) ≤ fk2_503 ∧ fk2_503 ≤ 6 := e508 ▸ hW504.1 16
                      refine .inl ⟨rfl, ?_⟩
                      rcases q511 with ⟨a514, a515, a516, a517⟩ | ⟨a518, a519, a520, a521⟩
                      · have _q : True := trivial
                        refine jx_go (tg := 109) rfl rfl ?_
                        refine jx_ld (pc_q := 110) (l_q := L461) (st_q := [.ref 66]) rfl (jl_aloadn gL461_0) ?_
                        refine jx_vr (pc_q := 113) (as := []) (st := []) rfl rfl rfl rfl ⟨rfl, rfl, Nat.le_of_ble_eq_true rfl⟩ rfl rfl (c_bad (dd := d) (hd := by omega) (hW := hW504)  (fk := fk2_503) (e_fk := show G499 16 = fk2_503 from (e508))    ) (fun o V_q hq => ?_)
                        obtain ⟨r522, rfl, rfl, b523, q524⟩ := hq
                        refine .inr ⟨_, rfl, ?_⟩
                        rcases q524 with ⟨rfl, a525⟩ | ⟨rfl, a526⟩
                        · have _q : True := trivial
                          refine jx_if_eq (pc_q := 116) (tg := 117) rfl rfl rfl (by decide) (by decide) (fun h527 => ?_) (fun h527 => ?_)
                          · have _q := h527
                            exact absurd h527 (by omega)
                          · have _q := h527
                            refine jx_rt (v := none) rfl rfl rfl rfl rfl rfl ?_
                            exact ⟨_, _, at2_501, fk2_503, sy, na, rfl, rfl, hW504, hF512, hS513, (e506), (e508), ((hF505.1 19 rfl).trans ((hF475.1 19 rfl).trans ((hF258.1 19 rfl).trans ((hF242.1 19 rfl).trans (e_sy))))), ((hF505.1 28 rfl).trans ((hF475.1 28 rfl).trans ((hF258.1 28 rfl).trans ((hF242.1 28 rfl).trans (e_na))))), by omega, by omega, by omega, by omega, by first | exact Or.inl (by omega)⟩
                        · have _q : True := trivial
                          exfalso
                          omega
                      · have _q : True := trivial
                        exfalso
                        omega
                    · have _q : True := trivial
                      refine jx_vr (pc_q := 96) (as := [.int (i32 (0))]) (st := []) rfl rfl rfl rfl ⟨rfl, rfl, Nat.le_of_ble_eq_true rfl⟩ rfl rfl (c_need (dd := d) (hd := by omega) (hW := hW474) (g := 0) (ln := ln) (e_ln := show G469 9 = ln from ((hF475.1 9 rfl).trans ((hF258.1 9 rfl).trans ((hF242.1 9 rfl).trans (e_ln))))) (le := le) (e_le := show A470 4 (ln).toNat = le from (congrFun ((hF475.2 4 rfl).trans ((hF258.2 4 rfl).trans (hF242.2 4 rfl))) _).trans (e_le)) (at0 := at2_471) (e_at0 := show G469 10 = at2_471 from (e476)) (fk := fk2_473) (e_fk := show G469 16 = fk2_473 from (e478)) (tk0 := tk2_472) (e_tk0 := show G469 11 = tk2_472 from (e477))  (h_g := ⟨(by decide), (by decide)⟩)  (p_0 := by omega)) (fun o V_q hq => ?_)
                      obtain ⟨G528, A529, at2_530, tk2_531, fk2_532, rfl, rfl, hW533, hF534, e535, e536, e537, p538, p539, q540⟩ := hq
                      have hF541 := Fr_tr hF482 hF534 (Fr_sub (by decide)) (Fr_sub (by decide))
                      have hS542 := Fx_f hS483 hF534 (by decide)
                      have bat2_530 : (0 : Int) ≤ at2_530 ∧ at2_530 ≤ 3002 := e535 ▸ hW533.1 10
                      have ztk2_531 := tz_b tk2_531
                      have btk2_531 : (0 : Int) ≤ tk2_531 ∧ tk2_531 ≤ 5 := e536 ▸ hW533.1 11
                      have bfk2_532 : (0 : Int) ≤ fk2_532 ∧ fk2_532 ≤ 6 := e537 ▸ hW533.1 16
                      refine .inl ⟨rfl, ?_⟩
                      rcases q540 with ⟨a543, a544, a545, a546⟩ | ⟨a547, a548, a549, a550⟩
                      · have _q : True := trivial
                        refine jx_go (tg := 109) rfl rfl ?_
                        refine jx_ld (pc_q := 110) (l_q := L461) (st_q := [.ref 66]) rfl (jl_aloadn gL461_0) ?_
                        refine jx_vr (pc_q := 113) (as := []) (st := []) rfl rfl rfl rfl ⟨rfl, rfl, Nat.le_of_ble_eq_true rfl⟩ rfl rfl (c_bad (dd := d) (hd := by omega) (hW := hW533)  (fk := fk2_532) (e_fk := show G528 16 = fk2_532 from (e537))    ) (fun o V_q hq => ?_)
                        obtain ⟨r551, rfl, rfl, b552, q553⟩ := hq
                        refine .inr ⟨_, rfl, ?_⟩
                        rcases q553 with ⟨rfl, a554⟩ | ⟨rfl, a555⟩
                        · have _q : True := trivial
                          refine jx_if_eq (pc_q := 116) (tg := 117) rfl rfl rfl (by decide) (by decide) (fun h556 => ?_) (fun h556 => ?_)
                          · have _q := h556
                            exact absurd h556 (by omega)
                          · have _q := h556
                            refine jx_rt (v := none) rfl rfl rfl rfl rfl rfl ?_
                            exact ⟨_, _, at2_530, fk2_532, sy, na, rfl, rfl, hW533, hF541, hS542, (e535), (e537), ((hF534.1 19 rfl).trans ((hF475.1 19 rfl).trans ((hF258.1 19 rfl).trans ((hF242.1 19 rfl).trans (e_sy))))), ((hF534.1 28 rfl).trans ((hF475.1 28 rfl).trans ((hF258.1 28 rfl).trans ((hF242.1 28 rfl).trans (e_na))))), by omega, by omega, by omega, by omega, by first | exact Or.inl (by omega)⟩
                        · have _q : True := trivial
                          exfalso
                          omega
                      · have _q : True := trivial
                        exfalso
                        omega
                  · have _q : True := trivial
                    refine jx_ld (pc_q := 87) (l_q := L461) (st_q := [.ref 66]) rfl (jl_aloadn gL461_0) ?_
                    refine jx_ld (pc_q := 88) (l_q := L461) (st_q := [.ref 66, .ref 66]) rfl (jl_aloadn gL461_0) ?_
                    refine jx_ar (pc_q := 90) (st_q := [.int (i32 (9)), .ref 66, .ref 66]) rfl rfl rfl rfl ?_
                    have b557 : (-2147483648 : Int) ≤ G469 13 ∧ G469 13 ≤ 2147483647 := hW474.1 13
                    refine jx_vr (pc_q := 93) (as := [.int (i32 (9))]) (st := [.ref 66]) rfl rfl rfl rfl ⟨rfl, rfl, Nat.le_of_ble_eq_true rfl⟩ rfl rfl (c_isKey (dd := d) (hd := by omega) (hW := hW474) (k := 9) (tk := tk2_472) (e_tk := show G469 11 = tk2_472 from (e477)) (tn := G469 13) (e_tn := show G469 13 = G469 13 from rfl)  (h_k := ⟨(by decide), (by decide)⟩)  ) (fun o V_q hq => ?_)
                    obtain ⟨r558, rfl, rfl, b559, q560⟩ := hq
                    refine .inr ⟨_, rfl, ?_⟩
                    rcases q560 with ⟨rfl, a561, a562, a563⟩ | rfl
                    · have _q : True := trivial
                      refine jx_vr (pc_q := 96) (as := [.int (i32 (1))]) (st := []) rfl rfl rfl rfl ⟨rfl, rfl, Nat.le_of_ble_eq_true rfl⟩ rfl rfl (c_need (dd := d) (hd := by omega) (hW := hW474) (g := 1) (ln := ln) (e_ln := show G469 9 = ln from ((hF475.1 9 rfl).trans ((hF258.1 9 rfl).trans ((hF242.1 9 rfl).trans (e_ln))))) (le := le) (e_le := show A470 4 (ln).toNat = le from (congrFun ((hF475.2 4 rfl).trans ((hF258.2 4 rfl).trans (hF242.2 4 rfl))) _).trans (e_le)) (at0 := at2_471) (e_at0 := show G469 10 = at2_471 from (e476)) (fk := fk2_473) (e_fk := show G469 16 = fk2_473 from (e478)) (tk0 := tk2_472) (e_tk0 := show G469 11 = tk2_472 from (e477))  (h_g := ⟨(by decide), (by decide)⟩)  (p_0 := by omega)) (fun o V_q hq => ?_)
                      obtain ⟨G564, A565, at2_566, tk2_567, fk2_568, rfl, rfl, hW569, hF570, e571, e572, e573, p574, p575, q576⟩ := hq
                      have hF577 := Fr_tr hF482 hF570 (Fr_sub (by decide)) (Fr_sub (by decide))
                      have hS578 := Fx_f hS483 hF570 (by decide)
                      have bat2_566 : (0 : Int) ≤ at2_566 ∧ at2_566 ≤ 3002 := e571 ▸ hW569.1 10
                      have ztk2_567 := tz_b tk2_567
                      have btk2_567 : (0 : Int) ≤ tk2_567 ∧ tk2_567 ≤ 5 := e572 ▸ hW569.1 11
                      have bfk2_568 : (0 : Int) ≤ fk2_568 ∧ fk2_568 ≤ 6 := e573 ▸ hW569.1 16
                      refine .inl ⟨rfl, ?_⟩
                      rcases q576 with ⟨a579, a580, a581, a582⟩ | ⟨a583, a584, a585, a586⟩
                      · have _q : True := trivial
                        refine jx_go (tg := 109) rfl rfl ?_
                        refine jx_ld (pc_q := 110) (l_q := L461) (st_q := [.ref 66]) rfl (jl_aloadn gL461_0) ?_
                        refine jx_vr (pc_q := 113) (as := []) (st := []) rfl rfl rfl rfl ⟨rfl, rfl, Nat.le_of_ble_eq_true rfl⟩ rfl rfl (c_bad (dd := d) (hd := by omega) (hW := hW569)  (fk := fk2_568) (e_fk := show G564 16 = fk2_568 from (e573))    ) (fun o V_q hq => ?_)
                        obtain ⟨r587, rfl, rfl, b588, q589⟩ := hq
                        refine .inr ⟨_, rfl, ?_⟩
                        rcases q589 with ⟨rfl, a590⟩ | ⟨rfl, a591⟩
                        · have _q : True := trivial
                          refine jx_if_eq (pc_q := 116) (tg := 117) rfl rfl rfl (by decide) (by decide) (fun h592 => ?_) (fun h592 => ?_)
                          · have _q := h592
                            exact absurd h592 (by omega)
                          · have _q := h592
                            refine jx_rt (v := none) rfl rfl rfl rfl rfl rfl ?_
                            exact ⟨_, _, at2_566, fk2_568, sy, na, rfl, rfl, hW569, hF577, hS578, (e571), (e573), ((hF570.1 19 rfl).trans ((hF475.1 19 rfl).trans ((hF258.1 19 rfl).trans ((hF242.1 19 rfl).trans (e_sy))))), ((hF570.1 28 rfl).trans ((hF475.1 28 rfl).trans ((hF258.1 28 rfl).trans ((hF242.1 28 rfl).trans (e_na))))), by omega, by omega, by omega, by omega, by first | exact Or.inl (by omega)⟩
                        · have _q : True := trivial
                          exfalso
                          omega
                      · have _q : True := trivial
                        refine jx_go (tg := 109) rfl rfl ?_
                        exact c_readParameter_at_109 (X := X) (d := d) (c0 := c0) (c1 := c1) (G := G) (A := A) (T := T) (fr := fr) (ln := ln) (le := le) (at0 := at0) (fk := fk) (tk0 := tk0) (sy := sy) (na := na) (hd := hd) (hW := hW) (e_ln := e_ln) (e_le := e_le) (e_at0 := e_at0) (e_fk := e_fk) (e_tk0 := e_tk0) (e_sy := e_sy) (e_na := e_na) (h_fr := h_fr) (p_0 := p_0) (p_1 := p_1) (p_2 := p_2) (p_3 := p_3) L461 G564 A565 (7) (r253) (at2_566) (tk2_567) (fk2_568) gL461_0 gL461_1 gL461_2 gL461_3 hW569 hF577 hS578 ((e571)) ((e572)) ((e573)) (((hF570.1 9 rfl).trans ((hF475.1 9 rfl).trans ((hF258.1 9 rfl).trans ((hF242.1 9 rfl).trans (e_ln)))))) (((hF570.1 19 rfl).trans ((hF475.1 19 rfl).trans ((hF258.1 19 rfl).trans ((hF242.1 19 rfl).trans (e_sy)))))) (((hF570.1 28 rfl).trans ((hF475.1 28 rfl).trans ((hF258.1 28 rfl).trans ((hF242.1 28 rfl).trans (e_na)))))) (by omega) (by omega) (by omega) (by omega) (by omega) (by omega)
                    · have _q : True := trivial
                      refine jx_vr (pc_q := 96) (as := [.int (i32 (0))]) (st := []) rfl rfl rfl rfl ⟨rfl, rfl, Nat.le_of_ble_eq_true rfl⟩ rfl rfl (c_need (dd := d) (hd := by omega) (hW := hW474) (g := 0) (ln := ln) (e_ln := show G469 9 = ln from ((hF475.1 9 rfl).trans ((hF258.1 9 rfl).trans ((hF242.1 9 rfl).trans (e_ln))))) (le := le) (e_le := show A470 4 (ln).toNat = le from (congrFun ((hF475.2 4 rfl).trans ((hF258.2 4 rfl).trans (hF242.2 4 rfl))) _).trans (e_le)) (at0 := at2_471) (e_at0 := show G469 10 = at2_471 from (e476)) (fk := fk2_473) (e_fk := show G469 16 = fk2_473 from (e478)) (tk0 := tk2_472) (e_tk0 := show G469 11 = tk2_472 from (e477))  (h_g := ⟨(by decide), (by decide)⟩)  (p_0 := by omega)) (fun o V_q hq => ?_)
                      obtain ⟨G593, A594, at2_595, tk2_596, fk2_597, rfl, rfl, hW598, hF599, e600, e601, e602, p603, p604, q605⟩ := hq
                      have hF606 := Fr_tr hF482 hF599 (Fr_sub (by decide)) (Fr_sub (by decide))
                      have hS607 := Fx_f hS483 hF599 (by decide)
                      have bat2_595 : (0 : Int) ≤ at2_595 ∧ at2_595 ≤ 3002 := e600 ▸ hW598.1 10
                      have ztk2_596 := tz_b tk2_596
                      have btk2_596 : (0 : Int) ≤ tk2_596 ∧ tk2_596 ≤ 5 := e601 ▸ hW598.1 11
                      have bfk2_597 : (0 : Int) ≤ fk2_597 ∧ fk2_597 ≤ 6 := e602 ▸ hW598.1 16
                      refine .inl ⟨rfl, ?_⟩
                      rcases q605 with ⟨a608, a609, a610, a611⟩ | ⟨a612, a613, a614, a615⟩
                      · have _q : True := trivial
                        refine jx_go (tg := 109) rfl rfl ?_
                        refine jx_ld (pc_q := 110) (l_q := L461) (st_q := [.ref 66]) rfl (jl_aloadn gL461_0) ?_
                        refine jx_vr (pc_q := 113) (as := []) (st := []) rfl rfl rfl rfl ⟨rfl, rfl, Nat.le_of_ble_eq_true rfl⟩ rfl rfl (c_bad (dd := d) (hd := by omega) (hW := hW598)  (fk := fk2_597) (e_fk := show G593 16 = fk2_597 from (e602))    ) (fun o V_q hq => ?_)
                        obtain ⟨r616, rfl, rfl, b617, q618⟩ := hq
                        refine .inr ⟨_, rfl, ?_⟩
                        rcases q618 with ⟨rfl, a619⟩ | ⟨rfl, a620⟩
                        · have _q : True := trivial
                          refine jx_if_eq (pc_q := 116) (tg := 117) rfl rfl rfl (by decide) (by decide) (fun h621 => ?_) (fun h621 => ?_)
                          · have _q := h621
                            exact absurd h621 (by omega)
                          · have _q := h621
                            refine jx_rt (v := none) rfl rfl rfl rfl rfl rfl ?_
                            exact ⟨_, _, at2_595, fk2_597, sy, na, rfl, rfl, hW598, hF606, hS607, (e600), (e602), ((hF599.1 19 rfl).trans ((hF475.1 19 rfl).trans ((hF258.1 19 rfl).trans ((hF242.1 19 rfl).trans (e_sy))))), ((hF599.1 28 rfl).trans ((hF475.1 28 rfl).trans ((hF258.1 28 rfl).trans ((hF242.1 28 rfl).trans (e_na))))), by omega, by omega, by omega, by omega, by first | exact Or.inl (by omega)⟩
                        · have _q : True := trivial
                          exfalso
                          omega
                      · have _q : True := trivial
                        exfalso
                        omega
                · have _q : True := trivial
                  refine jx_vr (pc_q := 86) (as := [.int (i32 (0))]) (st := []) rfl rfl rfl rfl ⟨rfl, rfl, Nat.le_of_ble_eq_true rfl⟩ rfl rfl (c_need (dd := d) (hd := by omega) (hW := hW257) (g := 0) (ln := ln) (e_ln := show G251 9 = ln from ((hF258.1 9 rfl).trans ((hF242.1 9 rfl).trans (e_ln)))) (le := le) (e_le := show A252 4 (ln).toNat = le from (congrFun ((hF258.2 4 rfl).trans (hF242.2 4 rfl)) _).trans (e_le)) (at0 := at2_254) (e_at0 := show G251 10 = at2_254 from (e260)) (fk := fk2_256) (e_fk := show G251 16 = fk2_256 from (e262)) (tk0 := tk2_255) (e_tk0 := show G251 11 = tk2_255 from (e261))  (h_g := ⟨(by decide), (by decide)⟩)  (p_0 := by omega)) (fun o V_q hq => ?_)
                  obtain ⟨G622, A623, at2_624, tk2_625, fk2_626, rfl, rfl, hW627, hF628, e629, e630, e631, p632, p633, q634⟩ := hq
                  have hF635 := Fr_tr hF266 hF628 (Fr_sub (by decide)) (Fr_sub (by decide))
                  have hS636 := Fx_f hS267 hF628 (by decide)
                  have bat2_624 : (0 : Int) ≤ at2_624 ∧ at2_624 ≤ 3002 := e629 ▸ hW627.1 10
                  have ztk2_625 := tz_b tk2_625
                  have btk2_625 : (0 : Int) ≤ tk2_625 ∧ tk2_625 ≤ 5 := e630 ▸ hW627.1 11
                  have bfk2_626 : (0 : Int) ≤ fk2_626 ∧ fk2_626 ≤ 6 := e631 ▸ hW627.1 16
                  refine .inl ⟨rfl, ?_⟩
                  rcases q634 with ⟨a637, a638, a639, a640⟩ | ⟨a641, a642, a643, a644⟩
                  · have _q : True := trivial
                    refine jx_ld (pc_q := 87) (l_q := L461) (st_q := [.ref 66]) rfl (jl_aloadn gL461_0) ?_
                    refine jx_ld (pc_q := 88) (l_q := L461) (st_q := [.ref 66, .ref 66]) rfl (jl_aloadn gL461_0) ?_
                    refine jx_ar (pc_q := 90) (st_q := [.int (i32 (9)), .ref 66, .ref 66]) rfl rfl rfl rfl ?_
                    have b645 : (-2147483648 : Int) ≤ G622 13 ∧ G622 13 ≤ 2147483647 := hW627.1 13
                    refine jx_vr (pc_q := 93) (as := [.int (i32 (9))]) (st := [.ref 66]) rfl rfl rfl rfl ⟨rfl, rfl, Nat.le_of_ble_eq_true rfl⟩ rfl rfl (c_isKey (dd := d) (hd := by omega) (hW := hW627) (k := 9) (tk := tk2_625) (e_tk := show G622 11 = tk2_625 from (e630)) (tn := G622 13) (e_tn := show G622 13 = G622 13 from rfl)  (h_k := ⟨(by decide), (by decide)⟩)  ) (fun o V_q hq => ?_)
                    obtain ⟨r646, rfl, rfl, b647, q648⟩ := hq
                    refine .inr ⟨_, rfl, ?_⟩
                    rcases q648 with ⟨rfl, a649, a650, a651⟩ | rfl
                    · have _q : True := trivial
                      refine jx_vr (pc_q := 96) (as := [.int (i32 (1))]) (st := []) rfl rfl rfl rfl ⟨rfl, rfl, Nat.le_of_ble_eq_true rfl⟩ rfl rfl (c_need (dd := d) (hd := by omega) (hW := hW627) (g := 1) (ln := ln) (e_ln := show G622 9 = ln from ((hF628.1 9 rfl).trans ((hF258.1 9 rfl).trans ((hF242.1 9 rfl).trans (e_ln))))) (le := le) (e_le := show A623 4 (ln).toNat = le from (congrFun ((hF628.2 4 rfl).trans ((hF258.2 4 rfl).trans (hF242.2 4 rfl))) _).trans (e_le)) (at0 := at2_624) (e_at0 := show G622 10 = at2_624 from (e629)) (fk := fk2_626) (e_fk := show G622 16 = fk2_626 from (e631)) (tk0 := tk2_625) (e_tk0 := show G622 11 = tk2_625 from (e630))  (h_g := ⟨(by decide), (by decide)⟩)  (p_0 := by omega)) (fun o V_q hq => ?_)
                      obtain ⟨G652, A653, at2_654, tk2_655, fk2_656, rfl, rfl, hW657, hF658, e659, e660, e661, p662, p663, q664⟩ := hq
                      have hF665 := Fr_tr hF635 hF658 (Fr_sub (by decide)) (Fr_sub (by decide))
                      have hS666 := Fx_f hS636 hF658 (by decide)
                      have bat2_654 : (0 : Int) ≤ at2_654 ∧ at2_654 ≤ 3002 := e659 ▸ hW657.1 10
                      have ztk2_655 := tz_b tk2_655
                      have btk2_655 : (0 : Int) ≤ tk2_655 ∧ tk2_655 ≤ 5 := e660 ▸ hW657.1 11
                      have bfk2_656 : (0 : Int) ≤ fk2_656 ∧ fk2_656 ≤ 6 := e661 ▸ hW657.1 16
                      refine .inl ⟨rfl, ?_⟩
                      rcases q664 with ⟨a667, a668, a669, a670⟩ | ⟨a671, a672, a673, a674⟩
                      · have _q : True := trivial
                        refine jx_go (tg := 109) rfl rfl ?_
                        refine jx_ld (pc_q := 110) (l_q := L461) (st_q := [.ref 66]) rfl (jl_aloadn gL461_0) ?_
                        refine jx_vr (pc_q := 113) (as := []) (st := []) rfl rfl rfl rfl ⟨rfl, rfl, Nat.le_of_ble_eq_true rfl⟩ rfl rfl (c_bad (dd := d) (hd := by omega) (hW := hW657)  (fk := fk2_656) (e_fk := show G652 16 = fk2_656 from (e661))    ) (fun o V_q hq => ?_)
                        obtain ⟨r675, rfl, rfl, b676, q677⟩ := hq
                        refine .inr ⟨_, rfl, ?_⟩
                        rcases q677 with ⟨rfl, a678⟩ | ⟨rfl, a679⟩
                        · have _q : True := trivial
                          refine jx_if_eq (pc_q := 116) (tg := 117) rfl rfl rfl (by decide) (by decide) (fun h680 => ?_) (fun h680 => ?_)
                          · have _q := h680
                            exact absurd h680 (by omega)
                          · have _q := h680
                            refine jx_rt (v := none) rfl rfl rfl rfl rfl rfl ?_
                            exact ⟨_, _, at2_654, fk2_656, sy, na, rfl, rfl, hW657, hF665, hS666, (e659), (e661), ((hF658.1 19 rfl).trans ((hF628.1 19 rfl).trans ((hF258.1 19 rfl).trans ((hF242.1 19 rfl).trans (e_sy))))), ((hF658.1 28 rfl).trans ((hF628.1 28 rfl).trans ((hF258.1 28 rfl).trans ((hF242.1 28 rfl).trans (e_na))))), by omega, by omega, by omega, by omega, by first | exact Or.inl (by omega)⟩
                        · have _q : True := trivial
                          exfalso
                          omega
                      · have _q : True := trivial
                        exfalso
                        omega
                    · have _q : True := trivial
                      refine jx_vr (pc_q := 96) (as := [.int (i32 (0))]) (st := []) rfl rfl rfl rfl ⟨rfl, rfl, Nat.le_of_ble_eq_true rfl⟩ rfl rfl (c_need (dd := d) (hd := by omega) (hW := hW627) (g := 0) (ln := ln) (e_ln := show G622 9 = ln from ((hF628.1 9 rfl).trans ((hF258.1 9 rfl).trans ((hF242.1 9 rfl).trans (e_ln))))) (le := le) (e_le := show A623 4 (ln).toNat = le from (congrFun ((hF628.2 4 rfl).trans ((hF258.2 4 rfl).trans (hF242.2 4 rfl))) _).trans (e_le)) (at0 := at2_624) (e_at0 := show G622 10 = at2_624 from (e629)) (fk := fk2_626) (e_fk := show G622 16 = fk2_626 from (e631)) (tk0 := tk2_625) (e_tk0 := show G622 11 = tk2_625 from (e630))  (h_g := ⟨(by decide), (by decide)⟩)  (p_0 := by omega)) (fun o V_q hq => ?_)
                      obtain ⟨G681, A682, at2_683, tk2_684, fk2_685, rfl, rfl, hW686, hF687, e688, e689, e690, p691, p692, q693⟩ := hq
                      have hF694 := Fr_tr hF635 hF687 (Fr_sub (by decide)) (Fr_sub (by decide))
                      have hS695 := Fx_f hS636 hF687 (by decide)
                      have bat2_683 : (0 : Int) ≤ at2_683 ∧ at2_683 ≤ 3002 := e688 ▸ hW686.1 10
                      have ztk2_684 := tz_b tk2_684
                      have btk2_684 : (0 : Int) ≤ tk2_684 ∧ tk2_684 ≤ 5 := e689 ▸ hW686.1 11
                      have bfk2_685 : (0 : Int) ≤ fk2_685 ∧ fk2_685 ≤ 6 := e690 ▸ hW686.1 16
                      refine .inl ⟨rfl, ?_⟩
                      rcases q693 with ⟨a696, a697, a698, a699⟩ | ⟨a700, a701, a702, a703⟩
                      · have _q : True := trivial
                        refine jx_go (tg := 109) rfl rfl ?_
                        refine jx_ld (pc_q := 110) (l_q := L461) (st_q := [.ref 66]) rfl (jl_aloadn gL461_0) ?_
                        refine jx_vr (pc_q := 113) (as := []) (st := []) rfl rfl rfl rfl ⟨rfl, rfl, Nat.le_of_ble_eq_true rfl⟩ rfl rfl (c_bad (dd := d) (hd := by omega) (hW := hW686)  (fk := fk2_685) (e_fk := show G681 16 = fk2_685 from (e690))    ) (fun o V_q hq => ?_)
                        obtain ⟨r704, rfl, rfl, b705, q706⟩ := hq
                        refine .inr ⟨_, rfl, ?_⟩
                        rcases q706 with ⟨rfl, a707⟩ | ⟨rfl, a708⟩
                        · have _q : True := trivial
                          refine jx_if_eq (pc_q := 116) (tg := 117) rfl rfl rfl (by decide) (by decide) (fun h709 => ?_) (fun h709 => ?_)
                          · have _q := h709
                            exact absurd h709 (by omega)
                          · have _q := h709
                            refine jx_rt (v := none) rfl rfl rfl rfl rfl rfl ?_
                            exact ⟨_, _, at2_683, fk2_685, sy, na, rfl, rfl, hW686, hF694, hS695, (e688), (e690), ((hF687.1 19 rfl).trans ((hF628.1 19 rfl).trans ((hF258.1 19 rfl).trans ((hF242.1 19 rfl).trans (e_sy))))), ((hF687.1 28 rfl).trans ((hF628.1 28 rfl).trans ((hF258.1 28 rfl).trans ((hF242.1 28 rfl).trans (e_na))))), by omega, by omega, by omega, by omega, by first | exact Or.inl (by omega)⟩
                        · have _q : True := trivial
                          exfalso
                          omega
                      · have _q : True := trivial
                        exfalso
                        omega
                  · have _q : True := trivial
                    exfalso
                    omega
          · have _q : True := trivial
            refine jx_if_eq (pc_q := 61) (tg := 99) rfl rfl rfl (by decide) (by decide) (fun h710 => ?_) (fun h710 => ?_)
            · have _q := h710
              refine jx_ld (pc_q := 100) (l_q := L116) (st_q := [.ref 66]) rfl (jl_aloadn gL116_0) ?_
              refine jx_ld (pc_q := 101) (l_q := L116) (st_q := [.ref 66, .ref 66]) rfl (jl_aloadn gL116_0) ?_
              refine jx_ar (pc_q := 103) (st_q := [.int (i32 (9)), .ref 66, .ref 66]) rfl rfl rfl rfl ?_
              refine jx_vr (pc_q := 106) (as := [.int (i32 (9))]) (st := [.ref 66]) rfl rfl rfl rfl ⟨rfl, rfl, Nat.le_of_ble_eq_true rfl⟩ rfl rfl (c_isKey (dd := d) (hd := by omega) (hW := hW) (k := 9) (tk := tk0) (e_tk := show G 11 = tk0 from (e_tk0)) (tn := G 13) (e_tn := show G 13 = G 13 from rfl)  (h_k := ⟨(by decide), (by decide)⟩)  ) (fun o V_q hq => ?_)
              obtain ⟨r711, rfl, rfl, b712, q713⟩ := hq
              refine .inr ⟨_, rfl, ?_⟩
              rcases q713 with ⟨rfl, a714, a715, a716⟩ | rfl
              · have _q : True := trivial
                refine jx_vr (pc_q := 109) (as := [.int (i32 (1))]) (st := []) rfl rfl rfl rfl ⟨rfl, rfl, Nat.le_of_ble_eq_true rfl⟩ rfl rfl (c_need (dd := d) (hd := by omega) (hW := hW) (g := 1) (ln := ln) (e_ln := show G 9 = ln from (e_ln)) (le := le) (e_le := show A 4 (ln).toNat = le from (e_le)) (at0 := at0) (e_at0 := show G 10 = at0 from (e_at0)) (fk := fk) (e_fk := show G 16 = fk from (e_fk)) (tk0 := tk0) (e_tk0 := show G 11 = tk0 from (e_tk0))  (h_g := ⟨(by decide), (by decide)⟩)  (p_0 := by omega)) (fun o V_q hq => ?_)
                obtain ⟨G717, A718, at2_719, tk2_720, fk2_721, rfl, rfl, hW722, hF723, e724, e725, e726, p727, p728, q729⟩ := hq
                have hF730 := Fr_tr hF0 hF723 (Fr_sub (by decide)) (Fr_sub (by decide))
                have hS731 := Fx_f hS0 hF723 (by decide)
                have bat2_719 : (0 : Int) ≤ at2_719 ∧ at2_719 ≤ 3002 := e724 ▸ hW722.1 10
                have ztk2_720 := tz_b tk2_720
                have btk2_720 : (0 : Int) ≤ tk2_720 ∧ tk2_720 ≤ 5 := e725 ▸ hW722.1 11
                have bfk2_721 : (0 : Int) ≤ fk2_721 ∧ fk2_721 ≤ 6 := e726 ▸ hW722.1 16
                refine .inl ⟨rfl, ?_⟩
                rcases q729 with ⟨a732, a733, a734, a735⟩ | ⟨a736, a737, a738, a739⟩
                · have _q : True := trivial
                  refine jx_ld (pc_q := 110) (l_q := L116) (st_q := [.ref 66]) rfl (jl_aloadn gL116_0) ?_
                  refine jx_vr (pc_q := 113) (as := []) (st := []) rfl rfl rfl rfl ⟨rfl, rfl, Nat.le_of_ble_eq_true rfl⟩ rfl rfl (c_bad (dd := d) (hd := by omega) (hW := hW722)  (fk := fk2_721) (e_fk := show G717 16 = fk2_721 from (e726))    ) (fun o V_q hq => ?_)
                  obtain ⟨r740, rfl, rfl, b741, q742⟩ := hq
                  refine .inr ⟨_, rfl, ?_⟩
                  rcases q742 with ⟨rfl, a743⟩ | ⟨rfl, a744⟩
                  · have _q : True := trivial
                    refine jx_if_eq (pc_q := 116) (tg := 117) rfl rfl rfl (by decide) (by decide) (fun h745 => ?_) (fun h745 => ?_)
                    · have _q := h745
                      exact absurd h745 (by omega)
                    · have _q := h745
                      refine jx_rt (v := none) rfl rfl rfl rfl rfl rfl ?_
                      exact ⟨_, _, at2_719, fk2_721, sy, na, rfl, rfl, hW722, hF730, hS731, (e724), (e726), ((hF723.1 19 rfl).trans (e_sy)), ((hF723.1 28 rfl).trans (e_na)), by omega, by omega, by omega, by omega, by first | exact Or.inl (by omega)⟩
                  · have _q : True := trivial
                    exfalso
                    omega
                · have _q : True := trivial
                  exact c_readParameter_at_109 (X := X) (d := d) (c0 := c0) (c1 := c1) (G := G) (A := A) (T := T) (fr := fr) (ln := ln) (le := le) (at0 := at0) (fk := fk) (tk0 := tk0) (sy := sy) (na := na) (hd := hd) (hW := hW) (e_ln := e_ln) (e_le := e_le) (e_at0 := e_at0) (e_fk := e_fk) (e_tk0 := e_tk0) (e_sy := e_sy) (e_na := e_na) (h_fr := h_fr) (p_0 := p_0) (p_1 := p_1) (p_2 := p_2) (p_3 := p_3) L116 G717 A718 (6) (1) (at2_719) (tk2_720) (fk2_721) gL116_0 gL116_1 gL116_2 gL116_3 hW722 hF730 hS731 ((e724)) ((e725)) ((e726)) (((hF723.1 9 rfl).trans (e_ln))) (((hF723.1 19 rfl).trans (e_sy))) (((hF723.1 28 rfl).trans (e_na))) (by omega) (by omega) (by omega) (by omega) (by omega) (by omega)
              · have _q : True := trivial
                refine jx_vr (pc_q := 109) (as := [.int (i32 (0))]) (st := []) rfl rfl rfl rfl ⟨rfl, rfl, Nat.le_of_ble_eq_true rfl⟩ rfl rfl (c_need (dd := d) (hd := by omega) (hW := hW) (g := 0) (ln := ln) (e_ln := show G 9 = ln from (e_ln)) (le := le) (e_le := show A 4 (ln).toNat = le from (e_le)) (at0 := at0) (e_at0 := show G 10 = at0 from (e_at0)) (fk := fk) (e_fk := show G 16 = fk from (e_fk)) (tk0 := tk0) (e_tk0 := show G 11 = tk0 from (e_tk0))  (h_g := ⟨(by decide), (by decide)⟩)  (p_0 := by omega)) (fun o V_q hq => ?_)
                obtain ⟨G746, A747, at2_748, tk2_749, fk2_750, rfl, rfl, hW751, hF752, e753, e754, e755, p756, p757, q758⟩ := hq
                have hF759 := Fr_tr hF0 hF752 (Fr_sub (by decide)) (Fr_sub (by decide))
                have hS760 := Fx_f hS0 hF752 (by decide)
                have bat2_748 : (0 : Int) ≤ at2_748 ∧ at2_748 ≤ 3002 := e753 ▸ hW751.1 10
                have ztk2_749 := tz_b tk2_749
                have btk2_749 : (0 : Int) ≤ tk2_749 ∧ tk2_749 ≤ 5 := e754 ▸ hW751.1 11
                have bfk2_750 : (0 : Int) ≤ fk2_750 ∧ fk2_750 ≤ 6 := e755 ▸ hW751.1 16
                refine .inl ⟨rfl, ?_⟩
                rcases q758 with ⟨a761, a762, a763, a764⟩ | ⟨a765, a766, a767, a768⟩
                · have _q : True := trivial
                  refine jx_ld (pc_q := 110) (l_q := L116) (st_q := [.ref 66]) rfl (jl_aloadn gL116_0) ?_
                  refine jx_vr (pc_q := 113) (as := []) (st := []) rfl rfl rfl rfl ⟨rfl, rfl, Nat.le_of_ble_eq_true rfl⟩ rfl rfl (c_bad (dd := d) (hd := by omega) (hW := hW751)  (fk := fk2_750) (e_fk := show G746 16 = fk2_750 from (e755))    ) (fun o V_q hq => ?_)
                  obtain ⟨r769, rfl, rfl, b770, q771⟩ := hq
                  refine .inr ⟨_, rfl, ?_⟩
                  rcases q771 with ⟨rfl, a772⟩ | ⟨rfl, a773⟩
                  · have _q : True := trivial
                    refine jx_if_eq (pc_q := 116) (tg := 117) rfl rfl rfl (by decide) (by decide) (fun h774 => ?_) (fun h774 => ?_)
                    · have _q := h774
                      exact absurd h774 (by omega)
                    · have _q := h774
                      refine jx_rt (v := none) rfl rfl rfl rfl rfl rfl ?_
                      exact ⟨_, _, at2_748, fk2_750, sy, na, rfl, rfl, hW751, hF759, hS760, (e753), (e755), ((hF752.1 19 rfl).trans (e_sy)), ((hF752.1 28 rfl).trans (e_na)), by omega, by omega, by omega, by omega, by first | exact Or.inl (by omega)⟩
                  · have _q : True := trivial
                    exfalso
                    omega
                · have _q : True := trivial
                  exfalso
                  omega
            · have _q := h710
              exact absurd h710 (by omega)
        · have _q := h228
          exact absurd h228 (by omega)
    · have _q := h205
      exact absurd h205 (by omega)
