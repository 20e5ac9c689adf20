set_option maxRecDepth 20000 in
set_option maxHeartbeats 4000000 in
theorem c_isTaken_at_5 {X : jX} {d : Nat} {c0 c1 : jC} {G : Nat → Int} {A : Nat → Nat → Int} {T : jH} {nm : Int64} {sy : Int} (hd : 1 ≤ d + 1) (hW : Wk G A) (e_sy : G 19 = sy) : ∀ (m : Nat) (L : jL) (tkn s : Int), (sy - s).toNat = m → jGet L 0 = some (.ref 66) → jGet L 1 = some (.long (nm)) → jGet L 3 = some (.int (i32 tkn)) → jGet L 4 = some (.int (i32 s)) → ((-2147483648 : Int) ≤ tkn ∧ tkn ≤ 2147483647) → ((-2147483648 : Int) ≤ s ∧ s ≤ 2147483647) → (0 ≤ tkn ∧ tkn ≤ 1) → (0 ≤ s ∧ s ≤ sy) → wj X d jm307 (5, L, [], rV c0 c1 G A T) (fun o V' => ∃ (r : Int), V' = rV c0 c1 G A T ∧ o = .inl (some (.int (i32 r))) ∧ ((0 : Int) ≤ r ∧ r ≤ 1) ∧ True) := by
  have b_sy : (0 : Int) ≤ sy ∧ sy ≤ 202 := e_sy ▸ hW.1 19
  intro m
  induction m using Nat.strongRecOn with
  | ind m ih5 =>
    intro L tkn s hm gL_0 gL_1 gL_3 gL_4 rx_tkn rx_s iv_0 iv_1
    refine jx_ld (pc' := 7) (l' := L) (st' := [.int (i32 (s))]) rfl (jl_iload gL_4) ?_
    refine jx_ld (pc' := 8) (l' := L) (st' := [.ref 66, .int (i32 (s))]) rfl (jl_aloadn gL_0) ?_
    refine jr_get (pc' := 11) (i := 19) (v := .int (i32 (sy))) rfl rfl (by decide) (rFv_eq (by decide) (show G 19 = sy from (e_sy))) rfl ?_
    refine jx_icmp_ge (pc' := 14) (tg := 79) rfl rfl rfl (Int.le_trans (by decide : (-2147483648 : Int) ≤ -2147483648) rx_s.1) (Int.le_trans rx_s.2 (by decide : (2147483647 : Int) ≤ 2147483647)) (Int.le_trans (by decide : (-2147483648 : Int) ≤ 0) b_sy.1) (Int.le_trans b_sy.2 (by decide : (202 : Int) ≤ 2147483647)) (fun h1 => ?_) (fun h1 => ?_)
    · have _q := h1
      refine jx_ld (pc' := 80) (l' := L) (st' := [.int (i32 (tkn))]) rfl (jl_iloadn gL_3) ?_
      refine jx_rt (v := some (.int (i32 (tkn)))) rfl rfl rfl rfl rfl (by first | rfl | exact jRet_b (by omega)) ?_
      exact ⟨_, rfl, rfl, by omega, trivial⟩
    · have _q := h1
      refine jx_ld (pc' := 15) (l' := L) (st' := [.ref 66]) rfl (jl_aloadn gL_0) ?_
      refine jr_get (pc' := 18) (i := 21) (v := .ref 74) rfl rfl (by decide) rfl rfl ?_
      refine jx_ld (pc' := 20) (l' := L) (st' := [.int (i32 (s)), .ref 74]) rfl (jl_iload gL_4) ?_
      have b2 : (0 : Int) ≤ A 7 (s).toNat ∧ A 7 (s).toNat ≤ 14 := hW.2 7 _
      refine jr_ldv (pc' := 21) (i := 7) (m := 260) (z := s) (y := A 7 (s).toNat) rfl (by decide) rfl (by decide) (by omega) (by omega) rfl (show A 7 (s).toNat = A 7 (s).toNat from rfl) ?_
      refine jx_ld (pc' := 23) (l' := jSto1 L 5 (.int (i32 (A 7 (s).toNat)))) (st' := []) rfl rfl ?_
      obtain ⟨L3, eL3⟩ : ∃ q, q = jSto1 L 5 (.int (i32 (A 7 (s).toNat))) := ⟨_, rfl⟩
      rw [← eL3]
      have gL3_0 : jGet L3 0 = some (.ref 66) := eL3 ▸ jg_ne (by decide) gL_0 rfl
      have gL3_1 : jGet L3 1 = some (.long (nm)) := eL3 ▸ jg_nel (by decide) gL_1 (by decide)
      have gL3_3 : jGet L3 3 = some (.int (i32 (tkn))) := eL3 ▸ jg_ne (by decide) gL_3 rfl
      have gL3_4 : jGet L3 4 = some (.int (i32 (s))) := eL3 ▸ jg_ne (by decide) gL_4 rfl
      have gL3_5 : jGet L3 5 = some (.int (i32 (A 7 (s).toNat))) := eL3 ▸ jg_eq
      refine jx_ld (pc' := 24) (l' := L3) (st' := [.int (i32 (tkn))]) rfl (jl_iloadn gL3_3) ?_
      refine jx_if_ne (pc' := 27) (tg := 67) rfl rfl rfl (Int.le_trans (by decide : (-2147483648 : Int) ≤ -2147483648) rx_tkn.1) (Int.le_trans rx_tkn.2 (by decide : (2147483647 : Int) ≤ 2147483647)) (fun h4 => ?_) (fun h4 => ?_)
      · have _q := h4
        refine jx_ar (pc' := 68) (st' := [.int (i32 (1))]) rfl rfl rfl rfl ?_
        refine jx_go (tg := 72) rfl rfl ?_
        refine jx_ld (pc' := 73) (l' := jSto1 L3 3 (.int (i32 (1)))) (st' := []) rfl rfl ?_
        obtain ⟨L5, eL5⟩ : ∃ q, q = jSto1 L3 3 (.int (i32 (1))) := ⟨_, rfl⟩
        rw [← eL5]
        have gL5_0 : jGet L5 0 = some (.ref 66) := eL5 ▸ jg_ne (by decide) gL3_0 rfl
        have gL5_1 : jGet L5 1 = some (.long (nm)) := eL5 ▸ jg_nel (by decide) gL3_1 (by decide)
        have gL5_4 : jGet L5 4 = some (.int (i32 (s))) := eL5 ▸ jg_ne (by decide) gL3_4 rfl
        have gL5_5 : jGet L5 5 = some (.int (i32 (A 7 (s).toNat))) := eL5 ▸ jg_ne (by decide) gL3_5 rfl
        have gL5_3 : jGet L5 3 = some (.int (i32 (1))) := eL5 ▸ jg_eq
        refine jx_inc (pc' := 76) (l' := jSto1 L5 4 (.int (i32 ((s + (1)))))) (x := s) rfl gL5_4 (by decide) rfl rfl ?_
        obtain ⟨L6, eL6⟩ : ∃ q, q = jSto1 L5 4 (.int (i32 ((s + (1))))) := ⟨_, rfl⟩
        rw [← eL6]
        have gL6_0 : jGet L6 0 = some (.ref 66) := eL6 ▸ jg_ne (by decide) gL5_0 rfl
        have gL6_1 : jGet L6 1 = some (.long (nm)) := eL6 ▸ jg_nel (by decide) gL5_1 (by decide)
        have gL6_5 : jGet L6 5 = some (.int (i32 (A 7 (s).toNat))) := eL6 ▸ jg_ne (by decide) gL5_5 rfl
        have gL6_3 : jGet L6 3 = some (.int (i32 (1))) := eL6 ▸ jg_ne (by decide) gL5_3 rfl
        have gL6_4 : jGet L6 4 = some (.int (i32 ((s + (1))))) := eL6 ▸ jg_eq
        refine jx_go (tg := 5) rfl rfl ?_
        exact ih5 _ (by omega) L6 (1) ((s + (1))) rfl gL6_0 gL6_1 gL6_3 gL6_4 (by omega) (by omega) (by omega) (by omega)
      · have _q := h4
        refine jx_ld (pc' := 28) (l' := L3) (st' := [.ref 66]) rfl (jl_aloadn gL3_0) ?_
        refine jr_get (pc' := 31) (i := 20) (v := .ref 73) rfl rfl (by decide) rfl rfl ?_
        refine jx_ld (pc' := 33) (l' := L3) (st' := [.int (i32 (s)), .ref 73]) rfl (jl_iload gL3_4) ?_
        refine jr_llv (pc' := 34) (i := 6) (m := 260) (z := s) rfl (by decide) rfl (by decide) (by omega) (by omega) rfl (fun y7 => ?_)
        refine jx_ld (pc' := 35) (l' := L3) (st' := [.long (nm), .long (y7)]) rfl (jl_lloadn gL3_1) ?_
        refine jx_lcmp (pc' := 36) rfl rfl (fun r8 hr8 => ?_)
        refine jx_if_ne (pc' := 39) (tg := 71) rfl rfl rfl (by omega) (by omega) (fun h9 => ?_) (fun h9 => ?_)
        · have _q := h9
          refine jx_ar (pc' := 72) (st' := [.int (i32 (0))]) rfl rfl rfl rfl ?_
          refine jx_ld (pc' := 73) (l' := jSto1 L3 3 (.int (i32 (0)))) (st' := []) rfl rfl ?_
          obtain ⟨L10, eL10⟩ : ∃ q, q = jSto1 L3 3 (.int (i32 (0))) := ⟨_, rfl⟩
          rw [← eL10]
          have gL10_0 : jGet L10 0 = some (.ref 66) := eL10 ▸ jg_ne (by decide) gL3_0 rfl
          have gL10_1 : jGet L10 1 = some (.long (nm)) := eL10 ▸ jg_nel (by decide) gL3_1 (by decide)
          have gL10_4 : jGet L10 4 = some (.int (i32 (s))) := eL10 ▸ jg_ne (by decide) gL3_4 rfl
          have gL10_5 : jGet L10 5 = some (.int (i32 (A 7 (s).toNat))) := eL10 ▸ jg_ne (by decide) gL3_5 rfl
          have gL10_3 : jGet L10 3 = some (.int (i32 (0))) := eL10 ▸ jg_eq
          refine jx_inc (pc' := 76) (l' := jSto1 L10 4 (.int (i32 ((s + (1)))))) (x := s) rfl gL10_4 (by decide) rfl rfl ?_
          obtain ⟨L11, eL11⟩ : ∃ q, q = jSto1 L10 4 (.int (i32 ((s + (1))))) := ⟨_, rfl⟩
          rw [← eL11]
          have gL11_0 : jGet L11 0 = some (.ref 66) := eL11 ▸ jg_ne (by decide) gL10_0 rfl
          have gL11_1 : jGet L11 1 = some (.long (nm)) := eL11 ▸ jg_nel (by decide) gL10_1 (by decide)
          have gL11_5 : jGet L11 5 = some (.int (i32 (A 7 (s).toNat))) := eL11 ▸ jg_ne (by decide) gL10_5 rfl
          have gL11_3 : jGet L11 3 = some (.int (i32 (0))) := eL11 ▸ jg_ne (by decide) gL10_3 rfl
          have gL11_4 : jGet L11 4 = some (.int (i32 ((s + (1))))) := eL11 ▸ jg_eq
          refine jx_go (tg := 5) rfl rfl ?_
          exact ih5 _ (by omega) L11 (0) ((s + (1))) rfl gL11_0 gL11_1 gL11_3 gL11_4 (by omega) (by omega) (by omega) (by omega)
        · have _q := h9
          refine jx_ld (pc' := 41) (l' := L3) (st' := [.int (i32 (A 7 (s).toNat))]) rfl (jl_iload gL3_5) ?_
          refine jx_ar (pc' := 43) (st' := [.int (i32 (14)), .int (i32 (A 7 (s).toNat))]) rfl rfl rfl rfl ?_
          refine jx_icmp_eq (pc' := 46) (tg := 67) rfl rfl rfl (Int.le_trans (by decide : (-2147483648 : Int) ≤ 0) b2.1) (Int.le_trans b2.2 (by decide : (14 : Int) ≤ 2147483647)) (by decide) (by decide) (fun h12 => ?_) (fun h12 => ?_)
          · have _q := h12
            refine jx_ar (pc' := 68) (st' := [.int (i32 (1))]) rfl rfl rfl rfl ?_
            refine jx_go (tg := 72) rfl rfl ?_
            refine jx_ld (pc' := 73) (l' := jSto1 L3 3 (.int (i32 (1)))) (st' := []) rfl rfl ?_
            obtain ⟨L13, eL13⟩ : ∃ q, q = jSto1 L3 3 (.int (i32 (1))) := ⟨_, rfl⟩
            rw [← eL13]
            have gL13_0 : jGet L13 0 = some (.ref 66) := eL13 ▸ jg_ne (by decide) gL3_0 rfl
            have gL13_1 : jGet L13 1 = some (.long (nm)) := eL13 ▸ jg_nel (by decide) gL3_1 (by decide)
            have gL13_4 : jGet L13 4 = some (.int (i32 (s))) := eL13 ▸ jg_ne (by decide) gL3_4 rfl
            have gL13_5 : jGet L13 5 = some (.int (i32 (A 7 (s).toNat))) := eL13 ▸ jg_ne (by decide) gL3_5 rfl
            have gL13_3 : jGet L13 3 = some (.int (i32 (1))) := eL13 ▸ jg_eq
            refine jx_inc (pc' := 76) (l' := jSto1 L13 4 (.int (i32 ((s + (1)))))) (x := s) rfl gL13_4 (by decide) rfl rfl ?_
            obtain ⟨L14, eL14⟩ : ∃ q, q = jSto1 L13 4 (.int (i32 ((s + (1))))) := ⟨_, rfl⟩
            rw [← eL14]
            have gL14_0 : jGet L14 0 = some (.ref 66) := eL14 ▸ jg_ne (by decide) gL13_0 rfl
            have gL14_1 : jGet L14 1 = some (.long (nm)) := eL14 ▸ jg_nel (by decide) gL13_1 (by decide)
            have gL14_5 : jGet L14 5 = some (.int (i32 (A 7 (s).toNat))) := eL14 ▸ jg_ne (by decide) gL13_5 rfl
            have gL14_3 : jGet L14 3 = some (.int (i32 (1))) := eL14 ▸ jg_ne (by decide) gL13_3 rfl
            have gL14_4 : jGet L14 4 = some (.int (i32 ((s + (1))))) := eL14 ▸ jg_eq
            refine jx_go (tg := 5) rfl rfl ?_
            exact ih5 _ (by omega) L14 (1) ((s + (1))) rfl gL14_0 gL14_1 gL14_3 gL14_4 (by omega) (by omega) (by omega) (by omega)
          · have _q := h12
            refine jx_ld (pc' := 48) (l' := L3) (st' := [.int (i32 (A 7 (s).toNat))]) rfl (jl_iload gL3_5) ?_
            refine jx_ar (pc' := 50) (st' := [.int (i32 (11)), .int (i32 (A 7 (s).toNat))]) rfl rfl rfl rfl ?_
            refine jx_icmp_eq (pc' := 53) (tg := 67) rfl rfl rfl (Int.le_trans (by decide : (-2147483648 : Int) ≤ 0) b2.1) (Int.le_trans b2.2 (by decide : (14 : Int) ≤ 2147483647)) (by decide) (by decide) (fun h15 => ?_) (fun h15 => ?_)
            · have _q := h15
              refine jx_ar (pc' := 68) (st' := [.int (i32 (1))]) rfl rfl rfl rfl ?_
              refine jx_go (tg := 72) rfl rfl ?_
              refine jx_ld (pc' := 73) (l' := jSto1 L3 3 (.int (i32 (1)))) (st' := []) rfl rfl ?_
              obtain ⟨L16, eL16⟩ : ∃ q, q = jSto1 L3 3 (.int (i32 (1))) := ⟨_, rfl⟩
              rw [← eL16]
              have gL16_0 : jGet L16 0 = some (.ref 66) := eL16 ▸ jg_ne (by decide) gL3_0 rfl
              have gL16_1 : jGet L16 1 = some (.long (nm)) := eL16 ▸ jg_nel (by decide) gL3_1 (by decide)
              have gL16_4 : jGet L16 4 = some (.int (i32 (s))) := eL16 ▸ jg_ne (by decide) gL3_4 rfl
              have gL16_5 : jGet L16 5 = some (.int (i32 (A 7 (s).toNat))) := eL16 ▸ jg_ne (by decide) gL3_5 rfl
              have gL16_3 : jGet L16 3 = some (.int (i32 (1))) := eL16 ▸ jg_eq
              refine jx_inc (pc' := 76) (l' := jSto1 L16 4 (.int (i32 ((s + (1)))))) (x := s) rfl gL16_4 (by decide) rfl rfl ?_
              obtain ⟨L17, eL17⟩ : ∃ q, q = jSto1 L16 4 (.int (i32 ((s + (1))))) := ⟨_, rfl⟩
              rw [← eL17]
              have gL17_0 : jGet L17 0 = some (.ref 66) := eL17 ▸ jg_ne (by decide) gL16_0 rfl
              have gL17_1 : jGet L17 1 = some (.long (nm)) := eL17 ▸ jg_nel (by decide) gL16_1 (by decide)
              have gL17_5 : jGet L17 5 = some (.int (i32 (A 7 (s).toNat))) := eL17 ▸ jg_ne (by decide) gL16_5 rfl
              have gL17_3 : jGet L17 3 = some (.int (i32 (1))) := eL17 ▸ jg_ne (by decide) gL16_3 rfl
              have gL17_4 : jGet L17 4 = some (.int (i32 ((s + (1))))) := eL17 ▸ jg_eq
              refine jx_go (tg := 5) rfl rfl ?_
              exact ih5 _ (by omega) L17 (1) ((s + (1))) rfl gL17_0 gL17_1 gL17_3 gL17_4 (by omega) (by omega) (by omega) (by omega)
            · have _q := h15
              refine jx_ld (pc' := 55) (l' := L3) (st' := [.int (i32 (A 7 (s).toNat))]) rfl (jl_iload gL3_5) ?_
              refine jx_ar (pc' := 57) (st' := [.int (i32 (12)), .int (i32 (A 7 (s).toNat))]) rfl rfl rfl rfl ?_
              refine jx_icmp_eq (pc' := 60) (tg := 67) rfl rfl rfl (Int.le_trans (by decide : (-2147483648 : Int) ≤ 0) b2.1) (Int.le_trans b2.2 (by decide : (14 : Int) ≤ 2147483647)) (by decide) (by decide) (fun h18 => ?_) (fun h18 => ?_)
              · have _q := h18
                refine jx_ar (pc' := 68) (st' := [.int (i32 (1))]) rfl rfl rfl rfl ?_
                refine jx_go (tg := 72) rfl rfl ?_
                refine jx_ld (pc' := 73) (l' := jSto1 L3 3 (.int (i32 (1)))) (st' := []) rfl rfl ?_
                obtain ⟨L19, eL19⟩ : ∃ q, q = jSto1 L3 3 (.int (i32 (1))) := ⟨_, rfl⟩
                rw [← eL19]
                have gL19_0 : jGet L19 0 = some (.ref 66) := eL19 ▸ jg_ne (by decide) gL3_0 rfl
                have gL19_1 : jGet L19 1 = some (.long (nm)) := eL19 ▸ jg_nel (by decide) gL3_1 (by decide)
                have gL19_4 : jGet L19 4 = some (.int (i32 (s))) := eL19 ▸ jg_ne (by decide) gL3_4 rfl
                have gL19_5 : jGet L19 5 = some (.int (i32 (A 7 (s).toNat))) := eL19 ▸ jg_ne (by decide) gL3_5 rfl
                have gL19_3 : jGet L19 3 = some (.int (i32 (1))) := eL19 ▸ jg_eq
                refine jx_inc (pc' := 76) (l' := jSto1 L19 4 (.int (i32 ((s + (1)))))) (x := s) rfl gL19_4 (by decide) rfl rfl ?_
                obtain ⟨L20, eL20⟩ : ∃ q, q = jSto1 L19 4 (.int (i32 ((s + (1))))) := ⟨_, rfl⟩
                rw [← eL20]
                have gL20_0 : jGet L20 0 = some (.ref 66) := eL20 ▸ jg_ne (by decide) gL19_0 rfl
                have gL20_1 : jGet L20 1 = some (.long (nm)) := eL20 ▸ jg_nel (by decide) gL19_1 (by decide)
                have gL20_5 : jGet L20 5 = some (.int (i32 (A 7 (s).toNat))) := eL20 ▸ jg_ne (by decide) gL19_5 rfl
                have gL20_3 : jGet L20 3 = some (.int (i32 (1))) := eL20 ▸ jg_ne (by decide) gL19_3 rfl
                have gL20_4 : jGet L20 4 = some (.int (i32 ((s + (1))))) := eL20 ▸ jg_eq
                refine jx_go (tg := 5) rfl rfl ?_
                exact ih5 _ (by omega) L20 (1) ((s + (1))) rfl gL20_0 gL20_1 gL20_3 gL20_4 (by omega) (by omega) (by omega) (by omega)
              · have _q := h18
                refine jx_ld (pc' := 62) (l' := L3) (st' := [.int (i32 (A 7 (s).toNat))]) rfl (jl_iload gL3_5) ?_
                refine jx_ar (pc' := 64) (st' := [.int (i32 (13)), .int (i32 (A 7 (s).toNat))]) rfl rfl rfl rfl ?_
                refine jx_icmp_ne (pc' := 67) (tg := 71) rfl rfl rfl (Int.le_trans (by decide : (-2147483648 : Int) ≤ 0) b2.1) (Int.le_trans b2.2 (by decide : (14 : Int) ≤ 2147483647)) (by decide) (by decide) (fun h21 => ?_) (fun h21 => ?_)
                · have _q := h21
                  refine jx_ar (pc' := 72) (st' := [.int (i32 (0))]) rfl rfl rfl rfl ?_
                  refine jx_ld (pc' := 73) (l' := jSto1 L3 3 (.int (i32 (0)))) (st' := []) rfl rfl ?_
                  obtain ⟨L22, eL22⟩ : ∃ q, q = jSto1 L3 3 (.int (i32 (0))) := ⟨_, rfl⟩
                  rw [← eL22]
                  have gL22_0 : jGet L22 0 = some (.ref 66) := eL22 ▸ jg_ne (by decide) gL3_0 rfl
                  have gL22_1 : jGet L22 1 = some (.long (nm)) := eL22 ▸ jg_nel (by decide) gL3_1 (by decide)
                  have gL22_4 : jGet L22 4 = some (.int (i32 (s))) := eL22 ▸ jg_ne (by decide) gL3_4 rfl
                  have gL22_5 : jGet L22 5 = some (.int (i32 (A 7 (s).toNat))) := eL22 ▸ jg_ne (by decide) gL3_5 rfl
                  have gL22_3 : jGet L22 3 = some (.int (i32 (0))) := eL22 ▸ jg_eq
                  refine jx_inc (pc' := 76) (l' := jSto1 L22 4 (.int (i32 ((s + (1)))))) (x := s) rfl gL22_4 (by decide) rfl rfl ?_
                  obtain ⟨L23, eL23⟩ : ∃ q, q = jSto1 L22 4 (.int (i32 ((s + (1))))) := ⟨_, rfl⟩
                  rw [← eL23]
                  have gL23_0 : jGet L23 0 = some (.ref 66) := eL23 ▸ jg_ne (by decide) gL22_0 rfl
                  have gL23_1 : jGet L23 1 = some (.long (nm)) := eL23 ▸ jg_nel (by decide) gL22_1 (by decide)
                  have gL23_5 : jGet L23 5 = some (.int (i32 (A 7 (s).toNat))) := eL23 ▸ jg_ne (by decide) gL22_5 rfl
                  have gL23_3 : jGet L23 3 = some (.int (i32 (0))) := eL23 ▸ jg_ne (by decide) gL22_3 rfl
                  have gL23_4 : jGet L23 4 = some (.int (i32 ((s + (1))))) := eL23 ▸ jg_eq
                  refine jx_go (tg := 5) rfl rfl ?_
                  exact ih5 _ (by omega) L23 (0) ((s + (1))) rfl gL23_0 gL23_1 gL23_3 gL23_4 (by omega) (by omega) (by omega) (by omega)
                · have _q := h21
                  refine jx_ar (pc' := 68) (st' := [.int (i32 (1))]) rfl rfl rfl rfl ?_
                  refine jx_go (tg := 72) rfl rfl ?_
                  refine jx_ld (pc' := 73) (l' := jSto1 L3 3 (.int (i32 (1)))) (st' := []) rfl rfl ?_
                  obtain ⟨L24, eL24⟩ : ∃ q, q = jSto1 L3 3 (.int (i32 (1))) := ⟨_, rfl⟩
                  rw [← eL24]
                  have gL24_0 : jGet L24 0 = some (.ref 66) := eL24 ▸ jg_ne (by decide) gL3_0 rfl
                  have gL24_1 : jGet L24 1 = some (.long (nm)) := eL24 ▸ jg_nel (by decide) gL3_1 (by decide)
                  have gL24_4 : jGet L24 4 = some (.int (i32 (s))) := eL24 ▸ jg_ne (by decide) gL3_4 rfl
                  have gL24_5 : jGet L24 5 = some (.int (i32 (A 7 (s).toNat))) := eL24 ▸ jg_ne (by decide) gL3_5 rfl
                  have gL24_3 : jGet L24 3 = some (.int (i32 (1))) := eL24 ▸ jg_eq
                  refine jx_inc (pc' := 76) (l' := jSto1 L24 4 (.int (i32 ((s + (1)))))) (x := s) rfl gL24_4 (by decide) rfl rfl ?_
                  obtain ⟨L25, eL25⟩ : ∃ q, q = jSto1 L24 4 (.int (i32 ((s + (1))))) := ⟨_, rfl⟩
                  rw [← eL25]
                  have gL25_0 : jGet L25 0 = some (.ref 66) := eL25 ▸ jg_ne (by decide) gL24_0 rfl
                  have gL25_1 : jGet L25 1 = some (.long (nm)) := eL25 ▸ jg_nel (by decide) gL24_1 (by decide)
                  have gL25_5 : jGet L25 5 = some (.int (i32 (A 7 (s).toNat))) := eL25 ▸ jg_ne (by decide) gL24_5 rfl
                  have gL25_3 : jGet L25 3 = some (.int (i32 (1))) := eL25 ▸ jg_ne (by decide) gL24_3 rfl
                  have gL25_4 : jGet L25 4 = some (.int (i32 ((s + (1))))) := eL25 ▸ jg_eq
                  refine jx_go (tg := 5) rfl rfl ?_
                  exact ih5 _ (by omega) L25 (1) ((s + (1))) rfl gL25_0 gL25_1 gL25_3 gL25_4 (by omega) (by omega) (by omega) (by omega)
set_option maxRecDepth 20000 in
set_option maxHeartbeats 4000000 in
theorem c_isTaken {X : jX} {dd : Nat} {c0 c1 : jC} {G : Nat → Int} {A : Nat → Nat → Int} {T : jH} {nm : Int64} {sy : Int} (hd : 1 ≤ dd) (hW : Wk G A) (e_sy : G 19 = sy) : wk X dd 307 [.ref 66, .long nm] (rV c0 c1 G A T) (fun o V' => ∃ (r : Int), V' = rV c0 c1 G A T ∧ o = .inl (some (.int (i32 r))) ∧ ((0 : Int) ≤ r ∧ r ≤ 1) ∧ True) := by
  obtain ⟨d, rfl⟩ : ∃ d, dd = d + 1 := ⟨dd - 1, by omega⟩
  refine wk_of (e := jm307) rfl (Nat.le_of_ble_eq_true rfl) ?_
  show wj X d jm307 (0, [(0, .ref 66), (1, .long (nm))], [], rV c0 c1 G A T) _
  have b_sy : (0 : Int) ≤ sy ∧ sy ≤ 202 := e_sy ▸ hW.1 19
  refine jx_ar (pc' := 1) (st' := [.int (i32 (0))]) rfl rfl rfl rfl ?_
  refine jx_ld (pc' := 2) (l' := jSto1 [(0, .ref 66), (1, .long (nm))] 3 (.int (i32 (0)))) (st' := []) rfl rfl ?_
  obtain ⟨L26, eL26⟩ : ∃ q, q = jSto1 [(0, .ref 66), (1, .long (nm))] 3 (.int (i32 (0))) := ⟨_, rfl⟩
  rw [← eL26]
  have gL26_0 : jGet L26 0 = some (.ref 66) := eL26 ▸ jg_ne (by decide) (rfl : jGet [(0, .ref 66), (1, .long (nm))] 0 = some (.ref 66)) rfl
  have gL26_1 : jGet L26 1 = some (.long (nm)) := eL26 ▸ jg_nel (by decide) (rfl : jGet [(0, .ref 66), (1, .long (nm))] 1 = some (.long (nm))) (by decide)
  have gL26_3 : jGet L26 3 = some (.int (i32 (0))) := eL26 ▸ jg_eq
  refine jx_ar (pc' := 3) (st' := [.int (i32 (0))]) rfl rfl rfl rfl ?_
  refine jx_ld (pc' := 5) (l' := jSto1 L26 4 (.int (i32 (0)))) (st' := []) rfl rfl ?_
  obtain ⟨L27, eL27⟩ : ∃ q, q = jSto1 L26 4 (.int (i32 (0))) := ⟨_, rfl⟩
  rw [← eL27]
  have gL27_0 : jGet L27 0 = some (.ref 66) := eL27 ▸ jg_ne (by decide) gL26_0 rfl
  have gL27_1 : jGet L27 1 = some (.long (nm)) := eL27 ▸ jg_nel (by decide) gL26_1 (by decide)
  have gL27_3 : jGet L27 3 = some (.int (i32 (0))) := eL27 ▸ jg_ne (by decide) gL26_3 rfl
  have gL27_4 : jGet L27 4 = some (.int (i32 (0))) := eL27 ▸ jg_eq
  exact c_isTaken_at_5 (X := X) (d := d) (c0 := c0) (c1 := c1) (G := G) (A := A) (T := T) (nm := nm) (sy := sy) (hd := hd) (hW := hW) (e_sy := e_sy) _ L27 (0) (0) rfl gL27_0 gL27_1 gL27_3 gL27_4 (by omega) (by omega) (by omega) (by omega)
set_option maxRecDepth 20000 in
set_option maxHeartbeats 4000000 in
theorem c_readParameter_at_177 {X : jX} {d : Nat} {c0 c1 : jC} {G : Nat → Int} {A : Nat → Nat → Int} {T : jH} {fr : Int} {ln le at0 fk tk0 sy na : Int} (hd : 8 ≤ d + 1) (hW : Wk G A) (e_ln : G 9 = ln) (e_le : A 4 (ln).toNat = le) (e_at0 : G 10 = at0) (e_fk : G 16 = fk) (e_tk0 : G 11 = tk0) (e_sy : G 19 = sy) (e_na : G 28 = na) (h_fr : (-2147483648 : Int) ≤ fr ∧ fr ≤ 2147483647) (p_0 : fk = 0) (p_1 : at0 ≤ le) (p_2 : 0 ≤ fr ∧ fr ≤ sy) (p_3 : sy ≤ na + 2) : ∀ (L : jL) (Gx : Nat → Int) (Ax : Nat → Nat → Int) (kd mn at1 tk1 fk1 : Int), jGet L 0 = some (.ref 66) → jGet L 1 = some (.int (i32 (fr))) → jGet L 2 = some (.int (i32 kd)) → jGet L 3 = some (.int (i32 mn)) → Wk Gx Ax → Fr [10, 11, 12, 13, 14, 16, 17, 18, 19, 28] [6, 7, 8, 9, 10, 11, 12] G A Gx Ax → Fx sr (sy) A Ax → Gx 10 = at1 → Gx 11 = tk1 → Gx 16 = fk1 → Gx 9 = ln → Gx 19 = sy → Gx 28 = na → ((-2147483648 : Int) ≤ kd ∧ kd ≤ 2147483647) → ((-2147483648 : Int) ≤ mn ∧ mn ≤ 2147483647) → (at0 ≤ at1) → (at1 ≤ le) → ((kd = 7 ∧ 1 ≤ mn ∧ mn ≤ 64) ∨ (5 ≤ kd ∧ kd ≤ 8 ∧ kd ≠ 7 ∧ mn = 1)) → wj X d jm309 (177, L, [], rV c0 c1 Gx Ax T) (fun o V' => ∃ (G' : Nat → Int) (A' : Nat → Nat → Int) (at2 : Int) (fk2 : Int) (sy2 : Int) (na2 : Int), V' = rV c0 c1 G' A' T ∧ o = .inl none ∧ Wk G' A' ∧ Fr [10, 11, 12, 13, 14, 16, 17, 18, 19, 28] [6, 7, 8, 9, 10, 11, 12] G A G' A' ∧ Fx sr (sy) A A' ∧ G' 10 = at2 ∧ G' 16 = fk2 ∧ G' 19 = sy2 ∧ G' 28 = na2 ∧ (at0 ≤ at2) ∧ (at2 ≤ le) ∧ (sy ≤ sy2) ∧ (sy2 ≤ na2 + 2) ∧ (((1 ≤ fk2)) ∨ ((fk2 = 0) ∧ (sy2 = sy + 1) ∧ (MP A' (sy))))) := by
  have hF0 : Fr [10, 11, 12, 13, 14, 16, 17, 18, 19, 28] [6, 7, 8, 9, 10, 11, 12] G A G A := Fr_rf
  have hS0 : Fx sr (sy) A A := Fx_rf
  have b_ln : (0 : Int) ≤ ln ∧ ln ≤ 3000 := e_ln ▸ hW.1 9
  have b_le : (0 : Int) ≤ le ∧ le ≤ 3000 := e_le ▸ hW.2 4 _
  have b_at0 : (0 : Int) ≤ at0 ∧ at0 ≤ 3002 := e_at0 ▸ hW.1 10
  have b_fk : (0 : Int) ≤ fk ∧ fk ≤ 6 := e_fk ▸ hW.1 16
  have b_tk0 : (0 : Int) ≤ tk0 ∧ tk0 ≤ 5 := e_tk0 ▸ hW.1 11
  have b_sy : (0 : Int) ≤ sy ∧ sy ≤ 202 := e_sy ▸ hW.1 19
  have b_na : (0 : Int) ≤ na ∧ na ≤ 200 := e_na ▸ hW.1 28
  intro L Gx Ax kd mn at1 tk1 fk1 gL_0 gL_1 gL_2 gL_3 hWx hFx hSx ex_at1 ex_tk1 ex_fk1 fx_9 fx_19 fx_28 rx_kd rx_mn iv_0 iv_1 iv_2
  have b_at1 : (0 : Int) ≤ at1 ∧ at1 ≤ 3002 := ex_at1 ▸ hWx.1 10
  have b_tk1 : (0 : Int) ≤ tk1 ∧ tk1 ≤ 5 := ex_tk1 ▸ hWx.1 11
  have b_fk1 : (0 : Int) ≤ fk1 ∧ fk1 ≤ 6 := ex_fk1 ▸ hWx.1 16
  refine jx_ld (pc' := 178) (l' := L) (st' := [.ref 66]) rfl (jl_aloadn gL_0) ?_
  refine jx_ld (pc' := 179) (l' := L) (st' := [.int (i32 (kd)), .ref 66]) rfl (jl_iloadn gL_2) ?_
  refine jx_ld (pc' := 180) (l' := L) (st' := [.int (i32 (mn)), .int (i32 (kd)), .ref 66]) rfl (jl_iloadn gL_3) ?_
  refine jx_vr (pc' := 183) (as := [.int (i32 (kd)), .int (i32 (mn))]) (st := []) rfl rfl rfl rfl ⟨rfl, rfl, Nat.le_of_ble_eq_true rfl⟩ rfl rfl (c_newName (dd := d) (hd := by omega) (hW := hWx) (kind := kd) (many := mn) (sy := sy) (e_sy := show Gx 19 = sy from (fx_19)) (na := na) (e_na := show Gx 28 = na from (fx_28)) (fk := fk1) (e_fk := show Gx 16 = fk1 from (ex_fk1))  (h_kind := ⟨(Int.le_trans (by decide : (-2147483648 : Int) ≤ -2147483648) rx_kd.1), (Int.le_trans rx_kd.2 (by decide : (2147483647 : Int) ≤ 2147483647))⟩) (h_many := ⟨(Int.le_trans (by decide : (-2147483648 : Int) ≤ -2147483648) rx_mn.1), (Int.le_trans rx_mn.2 (by decide : (2147483647 : Int) ≤ 2147483647))⟩)  (p_0 := by omega) (p_1 := by omega)) (fun o V' hq => ?_)
  obtain ⟨G1, A2, r3, sy2_4, na2_5, fk2_6, yk2_7, rfl, rfl, hW8, hF9, hQ10, b11, e12, e13, e14, e15, q16⟩ := hq
  have hF17 := Fr_tr hFx hF9 (Fr_sub (by decide)) (Fr_sub (by decide))
  have hS18 := Fx_tr hSx hQ10 (by omega)
  have bsy2_4 : (0 : Int) ≤ sy2_4 ∧ sy2_4 ≤ 202 := e12 ▸ hW8.1 19
  have bna2_5 : (0 : Int) ≤ na2_5 ∧ na2_5 ≤ 200 := e13 ▸ hW8.1 28
  have bfk2_6 : (0 : Int) ≤ fk2_6 ∧ fk2_6 ≤ 6 := e14 ▸ hW8.1 16
  have byk2_7 : (0 : Int) ≤ yk2_7 ∧ yk2_7 ≤ 14 := e15 ▸ hW8.2 7 _
  refine .inr ⟨_, rfl, ?_⟩
  rcases q16 with ⟨a25, a19, a20, a21, a22, a23, a24⟩ | ⟨rfl, a26, a27, a28⟩
  · have _q : True := trivial
    rw [a25]
    refine jx_ld (pc' := 185) (l' := jSto1 L 4 (.int (i32 (sy)))) (st' := []) rfl rfl ?_
    obtain ⟨L29, eL29⟩ : ∃ q, q = jSto1 L 4 (.int (i32 (sy))) := ⟨_, rfl⟩
    rw [← eL29]
    have gL29_0 : jGet L29 0 = some (.ref 66) := eL29 ▸ jg_ne (by decide) gL_0 rfl
    have gL29_1 : jGet L29 1 = some (.int (i32 (fr))) := eL29 ▸ jg_ne (by decide) gL_1 rfl
    have gL29_2 : jGet L29 2 = some (.int (i32 (kd))) := eL29 ▸ jg_ne (by decide) gL_2 rfl
    have gL29_3 : jGet L29 3 = some (.int (i32 (mn))) := eL29 ▸ jg_ne (by decide) gL_3 rfl
    have gL29_4 : jGet L29 4 = some (.int (i32 (sy))) := eL29 ▸ jg_eq
    refine jx_ld (pc' := 186) (l' := L29) (st' := [.ref 66]) rfl (jl_aloadn gL29_0) ?_
    refine jx_ar (pc' := 187) (st' := [.int (i32 (1)), .ref 66]) rfl rfl rfl rfl ?_
    refine jx_vr (pc' := 190) (as := [.int (i32 (1))]) (st := []) rfl rfl rfl rfl ⟨rfl, rfl, Nat.le_of_ble_eq_true rfl⟩ rfl rfl (c_need (dd := d) (hd := by omega) (hW := hW8) (g := 1) (ln := ln) (e_ln := show G1 9 = ln from ((hF9.1 9 rfl).trans (fx_9))) (le := le) (e_le := show A2 4 (ln).toNat = le from (congrFun ((hF9.2 4 rfl).trans (hFx.2 4 rfl)) _).trans (e_le)) (at0 := at1) (e_at0 := show G1 10 = at1 from ((hF9.1 10 rfl).trans (ex_at1))) (fk := fk2_6) (e_fk := show G1 16 = fk2_6 from (e14)) (tk0 := tk1) (e_tk0 := show G1 11 = tk1 from ((hF9.1 11 rfl).trans (ex_tk1)))  (h_g := ⟨(by decide), (by decide)⟩)  (p_0 := by omega)) (fun o V' hq => ?_)
    obtain ⟨G30, A31, at2_32, tk2_33, fk2_34, rfl, rfl, hW35, hF36, e37, e38, e39, p40, p41, q42⟩ := hq
    have hF43 := Fr_tr hF17 hF36 (Fr_sub (by decide)) (Fr_sub (by decide))
    have hS44 := Fx_f hS18 hF36 (by decide)
    have sf45 : YD A31 (sy) (kd) (mn) := YD_fx (by omega) (by omega) (Sg_fr (sb := sy + 1) hF36 (by decide)) a24
    have bat2_32 : (0 : Int) ≤ at2_32 ∧ at2_32 ≤ 3002 := e37 ▸ hW35.1 10
    have ztk2_33 := tz_b tk2_33
    have btk2_33 : (0 : Int) ≤ tk2_33 ∧ tk2_33 ≤ 5 := e38 ▸ hW35.1 11
    have bfk2_34 : (0 : Int) ≤ fk2_34 ∧ fk2_34 ≤ 6 := e39 ▸ hW35.1 16
    refine .inl ⟨rfl, ?_⟩
    rcases q42 with ⟨a46, a47, a48, a49⟩ | ⟨a50, a51, a52, a53⟩
    · have _q : True := trivial
      refine jx_rt (v := none) rfl rfl rfl rfl rfl rfl ?_
      exact ⟨_, _, at2_32, fk2_34, sy2_4, na2_5, rfl, rfl, hW35, hF43, hS44, (e37), (e39), ((hF36.1 19 rfl).trans (e12)), ((hF36.1 28 rfl).trans (e13)), by omega, by omega, by omega, by omega, by first | exact Or.inl (by omega)⟩
    · have _q : True := trivial
      refine jx_rt (v := none) rfl rfl rfl rfl rfl rfl ?_
      exact ⟨_, _, at2_32, fk2_34, sy2_4, na2_5, rfl, rfl, hW35, hF43, hS44, (e37), (e39), ((hF36.1 19 rfl).trans (e12)), ((hF36.1 28 rfl).trans (e13)), by omega, by omega, by omega, by omega, by first | exact Or.inr ((⟨by omega, by omega, (MP_of sf45 (by omega) (by omega) (fun q => by omega))⟩))⟩
  · have _q : True := trivial
    refine jx_ld (pc' := 185) (l' := jSto1 L 4 (.int (i32 (0)))) (st' := []) rfl rfl ?_
    obtain ⟨L54, eL54⟩ : ∃ q, q = jSto1 L 4 (.int (i32 (0))) := ⟨_, rfl⟩
    rw [← eL54]
    have gL54_0 : jGet L54 0 = some (.ref 66) := eL54 ▸ jg_ne (by decide) gL_0 rfl
    have gL54_1 : jGet L54 1 = some (.int (i32 (fr))) := eL54 ▸ jg_ne (by decide) gL_1 rfl
    have gL54_2 : jGet L54 2 = some (.int (i32 (kd))) := eL54 ▸ jg_ne (by decide) gL_2 rfl
    have gL54_3 : jGet L54 3 = some (.int (i32 (mn))) := eL54 ▸ jg_ne (by decide) gL_3 rfl
    have gL54_4 : jGet L54 4 = some (.int (i32 (0))) := eL54 ▸ jg_eq
    refine jx_ld (pc' := 186) (l' := L54) (st' := [.ref 66]) rfl (jl_aloadn gL54_0) ?_
    refine jx_ar (pc' := 187) (st' := [.int (i32 (1)), .ref 66]) rfl rfl rfl rfl ?_
    refine jx_vr (pc' := 190) (as := [.int (i32 (1))]) (st := []) rfl rfl rfl rfl ⟨rfl, rfl, Nat.le_of_ble_eq_true rfl⟩ rfl rfl (c_need (dd := d) (hd := by omega) (hW := hW8) (g := 1) (ln := ln) (e_ln := show G1 9 = ln from ((hF9.1 9 rfl).trans (fx_9))) (le := le) (e_le := show A2 4 (ln).toNat = le from (congrFun ((hF9.2 4 rfl).trans (hFx.2 4 rfl)) _).trans (e_le)) (at0 := at1) (e_at0 := show G1 10 = at1 from ((hF9.1 10 rfl).trans (ex_at1))) (fk := fk2_6) (e_fk := show G1 16 = fk2_6 from (e14)) (tk0 := tk1) (e_tk0 := show G1 11 = tk1 from ((hF9.1 11 rfl).trans (ex_tk1)))  (h_g := ⟨(by decide), (by decide)⟩)  (p_0 := by omega)) (fun o V' hq => ?_)
    obtain ⟨G55, A56, at2_57, tk2_58, fk2_59, rfl, rfl, hW60, hF61, e62, e63, e64, p65, p66, q67⟩ := hq
    have hF68 := Fr_tr hF17 hF61 (Fr_sub (by decide)) (Fr_sub (by decide))
    have hS69 := Fx_f hS18 hF61 (by decide)
    have bat2_57 : (0 : Int) ≤ at2_57 ∧ at2_57 ≤ 3002 := e62 ▸ hW60.1 10
    have ztk2_58 := tz_b tk2_58
    have btk2_58 : (0 : Int) ≤ tk2_58 ∧ tk2_58 ≤ 5 := e63 ▸ hW60.1 11
    have bfk2_59 : (0 : Int) ≤ fk2_59 ∧ fk2_59 ≤ 6 := e64 ▸ hW60.1 16
    refine .inl ⟨rfl, ?_⟩
    rcases q67 with ⟨a70, a71, a72, a73⟩ | ⟨a74, a75, a76, a77⟩
    · have _q : True := trivial
      refine jx_rt (v := none) rfl rfl rfl rfl rfl rfl ?_
      exact ⟨_, _, at2_57, fk2_59, sy2_4, na2_5, rfl, rfl, hW60, hF68, hS69, (e62), (e64), ((hF61.1 19 rfl).trans (e12)), ((hF61.1 28 rfl).trans (e13)), by omega, by omega, by omega, by omega, by first | exact Or.inl (by omega)⟩
    · have _q : True := trivial
      exfalso
      omega
set_option maxRecDepth 20000 in
set_option maxHeartbeats 4000000 in
theorem c_readParameter_at_138 {X : jX} {d : Nat} {c0 c1 : jC} {G : Nat → Int} {A : Nat → Nat → Int} {T : jH} {fr : Int} {ln le at0 fk tk0 sy na : Int} (hd : 8 ≤ d + 1) (hW : Wk G A) (e_ln : G 9 = ln) (e_le : A 4 (ln).toNat = le) (e_at0 : G 10 = at0) (e_fk : G 16 = fk) (e_tk0 : G 11 = tk0) (e_sy : G 19 = sy) (e_na : G 28 = na) (h_fr : (-2147483648 : Int) ≤ fr ∧ fr ≤ 2147483647) (p_0 : fk = 0) (p_1 : at0 ≤ le) (p_2 : 0 ≤ fr ∧ fr ≤ sy) (p_3 : sy ≤ na + 2) : ∀ (m : Nat) (L : jL) (Gx : Nat → Int) (Ax : Nat → Nat → Int) (kd mn s at1 tk1 fk1 : Int), (sy - s).toNat = m → jGet L 0 = some (.ref 66) → jGet L 1 = some (.int (i32 (fr))) → jGet L 2 = some (.int (i32 kd)) → jGet L 3 = some (.int (i32 mn)) → jGet L 4 = some (.int (i32 s)) → Wk Gx Ax → Fr [10, 11, 12, 13, 14, 16, 17, 18, 19, 28] [6, 7, 8, 9, 10, 11, 12] G A Gx Ax → Fx sr (sy) A Ax → Gx 10 = at1 → Gx 11 = tk1 → Gx 16 = fk1 → Gx 9 = ln → Gx 19 = sy → Gx 28 = na → ((-2147483648 : Int) ≤ kd ∧ kd ≤ 2147483647) → ((-2147483648 : Int) ≤ mn ∧ mn ≤ 2147483647) → ((-2147483648 : Int) ≤ s ∧ s ≤ 2147483647) → (at0 ≤ at1) → (at1 ≤ le) → ((kd = 7 ∧ 1 ≤ mn ∧ mn ≤ 64) ∨ (5 ≤ kd ∧ kd ≤ 8 ∧ kd ≠ 7 ∧ mn = 1)) → (fr ≤ s ∧ s ≤ sy) → wj X d jm309 (138, L, [], rV c0 c1 Gx Ax T) (fun o V' => ∃ (G' : Nat → Int) (A' : Nat → Nat → Int) (at2 : Int) (fk2 : Int) (sy2 : Int) (na2 : Int), V' = rV c0 c1 G' A' T ∧ o = .inl none ∧ Wk G' A' ∧ Fr [10, 11, 12, 13, 14, 16, 17, 18, 19, 28] [6, 7, 8, 9, 10, 11, 12] G A G' A' ∧ Fx sr (sy) A A' ∧ G' 10 = at2 ∧ G' 16 = fk2 ∧ G' 19 = sy2 ∧ G' 28 = na2 ∧ (at0 ≤ at2) ∧ (at2 ≤ le) ∧ (sy ≤ sy2) ∧ (sy2 ≤ na2 + 2) ∧ (((1 ≤ fk2)) ∨ ((fk2 = 0) ∧ (sy2 = sy + 1) ∧ (MP A' (sy))))) := by
  have hF0 : Fr [10, 11, 12, 13, 14, 16, 17, 18, 19, 28] [6, 7, 8, 9, 10, 11, 12] G A G A := Fr_rf
  have hS0 : Fx sr (sy) A A := Fx_rf
  have b_ln : (0 : Int) ≤ ln ∧ ln ≤ 3000 := e_ln ▸ hW.1 9
  have b_le : (0 : Int) ≤ le ∧ le ≤ 3000 := e_le ▸ hW.2 4 _
  have b_at0 : (0 : Int) ≤ at0 ∧ at0 ≤ 3002 := e_at0 ▸ hW.1 10
  have b_fk : (0 : Int) ≤ fk ∧ fk ≤ 6 := e_fk ▸ hW.1 16
  have b_tk0 : (0 : Int) ≤ tk0 ∧ tk0 ≤ 5 := e_tk0 ▸ hW.1 11
  have b_sy : (0 : Int) ≤ sy ∧ sy ≤ 202 := e_sy ▸ hW.1 19
  have b_na : (0 : Int) ≤ na ∧ na ≤ 200 := e_na ▸ hW.1 28
  intro m
  induction m using Nat.strongRecOn with
  | ind m ih138 =>
    intro L Gx Ax kd mn s at1 tk1 fk1 hm gL_0 gL_1 gL_2 gL_3 gL_4 hWx hFx hSx ex_at1 ex_tk1 ex_fk1 fx_9 fx_19 fx_28 rx_kd rx_mn rx_s iv_0 iv_1 iv_2 iv_3
    have b_at1 : (0 : Int) ≤ at1 ∧ at1 ≤ 3002 := ex_at1 ▸ hWx.1 10
    have b_tk1 : (0 : Int) ≤ tk1 ∧ tk1 ≤ 5 := ex_tk1 ▸ hWx.1 11
    have b_fk1 : (0 : Int) ≤ fk1 ∧ fk1 ≤ 6 := ex_fk1 ▸ hWx.1 16
    refine jx_ld (pc' := 140) (l' := L) (st' := [.int (i32 (s))]) rfl (jl_iload gL_4) ?_
    refine jx_ld (pc' := 141) (l' := L) (st' := [.ref 66, .int (i32 (s))]) rfl (jl_aloadn gL_0) ?_
    refine jr_get (pc' := 144) (i := 19) (v := .int (i32 (sy))) rfl rfl (by decide) (rFv_eq (by decide) (show Gx 19 = sy from (fx_19))) rfl ?_
    refine jx_icmp_ge (pc' := 147) (tg := 177) rfl rfl rfl (Int.le_trans (by decide : (-2147483648 : Int) ≤ -2147483648) rx_s.1) (Int.le_trans rx_s.2 (by decide : (2147483647 : Int) ≤ 2147483647)) (Int.le_trans (by decide : (-2147483648 : Int) ≤ 0) b_sy.1) (Int.le_trans b_sy.2 (by decide : (202 : Int) ≤ 2147483647)) (fun h78 => ?_) (fun h78 => ?_)
    · have _q := h78
      exact c_readParameter_at_177 (X := X) (d := d) (c0 := c0) (c1 := c1) (G := G) (A := A) (T := T) (fr := fr) (ln := ln) (le := le) (at0 := at0) (fk := fk) (tk0 := tk0) (sy := sy) (na := na) (hd := hd) (hW := hW) (e_ln := e_ln) (e_le := e_le) (e_at0 := e_at0) (e_fk := e_fk) (e_tk0 := e_tk0) (e_sy := e_sy) (e_na := e_na) (h_fr := h_fr) (p_0 := p_0) (p_1 := p_1) (p_2 := p_2) (p_3 := p_3) L Gx Ax (kd) (mn) (at1) (tk1) (fk1) gL_0 gL_1 gL_2 gL_3 hWx hFx hSx ((ex_at1)) ((ex_tk1)) ((ex_fk1)) ((fx_9)) ((fx_19)) ((fx_28)) (by omega) (by omega) (by omega) (by omega) (by omega)
    · have _q := h78
      refine jx_ld (pc' := 148) (l' := L) (st' := [.ref 66]) rfl (jl_aloadn gL_0) ?_
      refine jr_get (pc' := 151) (i := 20) (v := .ref 73) rfl rfl (by decide) rfl rfl ?_
      refine jx_ld (pc' := 153) (l' := L) (st' := [.int (i32 (s)), .ref 73]) rfl (jl_iload gL_4) ?_
      refine jr_llv (pc' := 154) (i := 6) (m := 260) (z := s) rfl (by decide) rfl (by decide) (by omega) (by omega) rfl (fun y79 => ?_)
      refine jx_ld (pc' := 155) (l' := L) (st' := [.ref 66, .long (y79)]) rfl (jl_aloadn gL_0) ?_
      refine jr_get (pc' := 158) (i := 14) (v := .long (i64 (Gx 14))) rfl rfl (by decide) rfl rfl ?_
      obtain ⟨y80, ey80⟩ : ∃ q : Int64, q = i64 (Gx 14) := ⟨_, rfl⟩
      rw [← ey80]
      refine jx_lcmp (pc' := 159) rfl rfl (fun r81 hr81 => ?_)
      refine jx_if_ne (pc' := 162) (tg := 171) rfl rfl rfl (by omega) (by omega) (fun h82 => ?_) (fun h82 => ?_)
      · have _q := h82
        refine jx_inc (pc' := 174) (l' := jSto1 L 4 (.int (i32 ((s + (1)))))) (x := s) rfl gL_4 (by decide) rfl rfl ?_
        obtain ⟨L83, eL83⟩ : ∃ q, q = jSto1 L 4 (.int (i32 ((s + (1))))) := ⟨_, rfl⟩
        rw [← eL83]
        have gL83_0 : jGet L83 0 = some (.ref 66) := eL83 ▸ jg_ne (by decide) gL_0 rfl
        have gL83_1 : jGet L83 1 = some (.int (i32 (fr))) := eL83 ▸ jg_ne (by decide) gL_1 rfl
        have gL83_2 : jGet L83 2 = some (.int (i32 (kd))) := eL83 ▸ jg_ne (by decide) gL_2 rfl
        have gL83_3 : jGet L83 3 = some (.int (i32 (mn))) := eL83 ▸ jg_ne (by decide) gL_3 rfl
        have gL83_4 : jGet L83 4 = some (.int (i32 ((s + (1))))) := eL83 ▸ jg_eq
        refine jx_go (tg := 138) rfl rfl ?_
        exact ih138 _ (by omega) L83 Gx Ax (kd) (mn) ((s + (1))) (at1) (tk1) (fk1) rfl gL83_0 gL83_1 gL83_2 gL83_3 gL83_4 hWx hFx hSx ((ex_at1)) ((ex_tk1)) ((ex_fk1)) ((fx_9)) ((fx_19)) ((fx_28)) (by omega) (by omega) (by omega) (by omega) (by omega) (by omega) (by omega)
      · have _q := h82
        refine jx_ld (pc' := 163) (l' := L) (st' := [.ref 66]) rfl (jl_aloadn gL_0) ?_
        refine jx_ar (pc' := 164) (st' := [.int (i32 (2)), .ref 66]) rfl rfl rfl rfl ?_
        refine jx_ld (pc' := 165) (l' := L) (st' := [.ref 66, .int (i32 (2)), .ref 66]) rfl (jl_aloadn gL_0) ?_
        have b84 : (-3000 : Int) ≤ Gx 12 ∧ Gx 12 ≤ 3002 := hWx.1 12
        refine jr_get (pc' := 168) (i := 12) (v := .int (i32 (Gx 12))) rfl rfl (by decide) rfl rfl ?_
        refine jx_vr (pc' := 171) (as := [.int (i32 (2)), .int (i32 (Gx 12))]) (st := []) rfl rfl rfl rfl ⟨rfl, rfl, Nat.le_of_ble_eq_true rfl⟩ rfl rfl (c_fail (dd := d) (hd := by omega) (hW := hWx) (kind := 2) (place := Gx 12) (fk := fk1) (e_fk := show Gx 16 = fk1 from (ex_fk1))  (h_kind := ⟨(by decide), (by decide)⟩) (h_place := ⟨(Int.le_trans (by decide : (-2147483648 : Int) ≤ -3000) b84.1), (Int.le_trans b84.2 (by decide : (3002 : Int) ≤ 2147483647))⟩)  (p_0 := by omega) (p_1 := by omega)) (fun o V' hq => ?_)
        obtain ⟨G85, A86, fk2_87, rfl, rfl, hW88, hF89, e90, p91, -⟩ := hq
        have hF93 := Fr_tr hFx hF89 (Fr_sub (by decide)) (Fr_sub (by decide))
        have hS94 := Fx_f hSx hF89 (by decide)
        have bfk2_87 : (0 : Int) ≤ fk2_87 ∧ fk2_87 ≤ 6 := e90 ▸ hW88.1 16
        refine .inl ⟨rfl, ?_⟩
        refine jx_inc (pc' := 174) (l' := jSto1 L 4 (.int (i32 ((s + (1)))))) (x := s) rfl gL_4 (by decide) rfl rfl ?_
        obtain ⟨L95, eL95⟩ : ∃ q, q = jSto1 L 4 (.int (i32 ((s + (1))))) := ⟨_, rfl⟩
        rw [← eL95]
        have gL95_0 : jGet L95 0 = some (.ref 66) := eL95 ▸ jg_ne (by decide) gL_0 rfl
        have gL95_1 : jGet L95 1 = some (.int (i32 (fr))) := eL95 ▸ jg_ne (by decide) gL_1 rfl
        have gL95_2 : jGet L95 2 = some (.int (i32 (kd))) := eL95 ▸ jg_ne (by decide) gL_2 rfl
        have gL95_3 : jGet L95 3 = some (.int (i32 (mn))) := eL95 ▸ jg_ne (by decide) gL_3 rfl
        have gL95_4 : jGet L95 4 = some (.int (i32 ((s + (1))))) := eL95 ▸ jg_eq
        refine jx_go (tg := 138) rfl rfl ?_
        exact ih138 _ (by omega) L95 G85 A86 (kd) (mn) ((s + (1))) (at1) (tk1) (fk2_87) rfl gL95_0 gL95_1 gL95_2 gL95_3 gL95_4 hW88 hF93 hS94 (((hF89.1 10 rfl).trans (ex_at1))) (((hF89.1 11 rfl).trans (ex_tk1))) ((e90)) (((hF89.1 9 rfl).trans (fx_9))) (((hF89.1 19 rfl).trans (fx_19))) (((hF89.1 28 rfl).trans (fx_28))) (by omega) (by omega) (by omega) (by omega) (by omega) (by omega) (by omega)
set_option maxRecDepth 20000 in
set_option maxHeartbeats 4000000 in
theorem c_readParameter_at_109 {X : jX} {d : Nat} {c0 c1 : jC} {G : Nat → Int} {A : Nat → Nat → Int} {T : jH} {fr : Int} {ln le at0 fk tk0 sy na : Int} (hd : 8 ≤ d + 1) (hW : Wk G A) (e_ln : G 9 = ln) (e_le : A 4 (ln).toNat = le) (e_at0 : G 10 = at0) (e_fk : G 16 = fk) (e_tk0 : G 11 = tk0) (e_sy : G 19 = sy) (e_na : G 28 = na) (h_fr : (-2147483648 : Int) ≤ fr ∧ fr ≤ 2147483647) (p_0 : fk = 0) (p_1 : at0 ≤ le) (p_2 : 0 ≤ fr ∧ fr ≤ sy) (p_3 : sy ≤ na + 2) : ∀ (L : jL) (Gx : Nat → Int) (Ax : Nat → Nat → Int) (kd mn at1 tk1 fk1 : Int), jGet L 0 = some (.ref 66) → jGet L 1 = some (.int (i32 (fr))) → jGet L 2 = some (.int (i32 kd)) → jGet L 3 = some (.int (i32 mn)) → Wk Gx Ax → Fr [10, 11, 12, 13, 14, 16, 17, 18, 19, 28] [6, 7, 8, 9, 10, 11, 12] G A Gx Ax → Fx sr (sy) A Ax → Gx 10 = at1 → Gx 11 = tk1 → Gx 16 = fk1 → Gx 9 = ln → Gx 19 = sy → Gx 28 = na → ((-2147483648 : Int) ≤ kd ∧ kd ≤ 2147483647) → ((-2147483648 : Int) ≤ mn ∧ mn ≤ 2147483647) → (fk1 = 0) → (at0 ≤ at1) → (at1 ≤ le) → ((kd = 7 ∧ 1 ≤ mn ∧ mn ≤ 64) ∨ (5 ≤ kd ∧ kd ≤ 8 ∧ kd ≠ 7 ∧ mn = 1)) → wj X d jm309 (109, L, [], rV c0 c1 Gx Ax T) (fun o V' => ∃ (G' : Nat → Int) (A' : Nat → Nat → Int) (at2 : Int) (fk2 : Int) (sy2 : Int) (na2 : Int), V' = rV c0 c1 G' A' T ∧ o = .inl none ∧ Wk G' A' ∧ Fr [10, 11, 12, 13, 14, 16, 17, 18, 19, 28] [6, 7, 8, 9, 10, 11, 12] G A G' A' ∧ Fx sr (sy) A A' ∧ G' 10 = at2 ∧ G' 16 = fk2 ∧ G' 19 = sy2 ∧ G' 28 = na2 ∧ (at0 ≤ at2) ∧ (at2 ≤ le) ∧ (sy ≤ sy2) ∧ (sy2 ≤ na2 + 2) ∧ (((1 ≤ fk2)) ∨ ((fk2 = 0) ∧ (sy2 = sy + 1) ∧ (MP A' (sy))))) := by
  have hF0 : Fr [10, 11, 12, 13, 14, 16, 17, 18, 19, 28] [6, 7, 8, 9, 10, 11, 12] G A G A := Fr_rf
  have hS0 : Fx sr (sy) A A := Fx_rf
  have b_ln : (0 : Int) ≤ ln ∧ ln ≤ 3000 := e_ln ▸ hW.1 9
  have b_le : (0 : Int) ≤ le ∧ le ≤ 3000 := e_le ▸ hW.2 4 _
  have b_at0 : (0 : Int) ≤ at0 ∧ at0 ≤ 3002 := e_at0 ▸ hW.1 10
  have b_fk : (0 : Int) ≤ fk ∧ fk ≤ 6 := e_fk ▸ hW.1 16
  have b_tk0 : (0 : Int) ≤ tk0 ∧ tk0 ≤ 5 := e_tk0 ▸ hW.1 11
  have b_sy : (0 : Int) ≤ sy ∧ sy ≤ 202 := e_sy ▸ hW.1 19
  have b_na : (0 : Int) ≤ na ∧ na ≤ 200 := e_na ▸ hW.1 28
  intro L Gx Ax kd mn at1 tk1 fk1 gL_0 gL_1 gL_2 gL_3 hWx hFx hSx ex_at1 ex_tk1 ex_fk1 fx_9 fx_19 fx_28 rx_kd rx_mn iv_0 iv_1 iv_2 iv_3
  have b_at1 : (0 : Int) ≤ at1 ∧ at1 ≤ 3002 := ex_at1 ▸ hWx.1 10
  have b_tk1 : (0 : Int) ≤ tk1 ∧ tk1 ≤ 5 := ex_tk1 ▸ hWx.1 11
  have b_fk1 : (0 : Int) ≤ fk1 ∧ fk1 ≤ 6 := ex_fk1 ▸ hWx.1 16
  refine jx_ld (pc' := 110) (l' := L) (st' := [.ref 66]) rfl (jl_aloadn gL_0) ?_
  refine jx_vr (pc' := 113) (as := []) (st := []) rfl rfl rfl rfl ⟨rfl, rfl, Nat.le_of_ble_eq_true rfl⟩ rfl rfl (c_bad (dd := d) (hd := by omega) (hW := hWx)  (fk := fk1) (e_fk := show Gx 16 = fk1 from (ex_fk1))    ) (fun o V' hq => ?_)
  obtain ⟨r96, rfl, rfl, b97, q98⟩ := hq
  refine .inr ⟨_, rfl, ?_⟩
  rcases q98 with ⟨rfl, a99⟩ | ⟨rfl, a100⟩
  · have _q : True := trivial
    exfalso
    omega
  · have _q : True := trivial
    refine jx_if_eq (pc' := 116) (tg := 117) rfl rfl rfl (by decide) (by decide) (fun h101 => ?_) (fun h101 => ?_)
    · have _q := h101
      refine jx_ld (pc' := 118) (l' := L) (st' := [.ref 66]) rfl (jl_aloadn gL_0) ?_
      refine jr_get (pc' := 121) (i := 11) (v := .int (i32 (tk1))) rfl rfl (by decide) (rFv_eq (by decide) (show Gx 11 = tk1 from (ex_tk1))) rfl ?_
      refine jx_ar (pc' := 122) (st' := [.int (i32 (1)), .int (i32 (tk1))]) rfl rfl rfl rfl ?_
      refine jx_icmp_eq (pc' := 125) (tg := 135) rfl rfl rfl (Int.le_trans (by decide : (-2147483648 : Int) ≤ 0) b_tk1.1) (Int.le_trans b_tk1.2 (by decide : (5 : Int) ≤ 2147483647)) (by decide) (by decide) (fun h102 => ?_) (fun h102 => ?_)
      · have _q := h102
        refine jx_ld (pc' := 136) (l' := L) (st' := [.int (i32 (fr))]) rfl (jl_iloadn gL_1) ?_
        refine jx_ld (pc' := 138) (l' := jSto1 L 4 (.int (i32 (fr)))) (st' := []) rfl rfl ?_
        obtain ⟨L103, eL103⟩ : ∃ q, q = jSto1 L 4 (.int (i32 (fr))) := ⟨_, rfl⟩
        rw [← eL103]
        have gL103_0 : jGet L103 0 = some (.ref 66) := eL103 ▸ jg_ne (by decide) gL_0 rfl
        have gL103_1 : jGet L103 1 = some (.int (i32 (fr))) := eL103 ▸ jg_ne (by decide) gL_1 rfl
        have gL103_2 : jGet L103 2 = some (.int (i32 (kd))) := eL103 ▸ jg_ne (by decide) gL_2 rfl
        have gL103_3 : jGet L103 3 = some (.int (i32 (mn))) := eL103 ▸ jg_ne (by decide) gL_3 rfl
        have gL103_4 : jGet L103 4 = some (.int (i32 (fr))) := eL103 ▸ jg_eq
        exact c_readParameter_at_138 (X := X) (d := d) (c0 := c0) (c1 := c1) (G := G) (A := A) (T := T) (fr := fr) (ln := ln) (le := le) (at0 := at0) (fk := fk) (tk0 := tk0) (sy := sy) (na := na) (hd := hd) (hW := hW) (e_ln := e_ln) (e_le := e_le) (e_at0 := e_at0) (e_fk := e_fk) (e_tk0 := e_tk0) (e_sy := e_sy) (e_na := e_na) (h_fr := h_fr) (p_0 := p_0) (p_1 := p_1) (p_2 := p_2) (p_3 := p_3) _ L103 Gx Ax (kd) (mn) (fr) (at1) (tk1) (fk1) rfl gL103_0 gL103_1 gL103_2 gL103_3 gL103_4 hWx hFx hSx ((ex_at1)) ((ex_tk1)) ((ex_fk1)) ((fx_9)) ((fx_19)) ((fx_28)) (by omega) (by omega) (by omega) (by omega) (by omega) (by omega) (by omega)
      · have _q := h102
        refine jx_ld (pc' := 126) (l' := L) (st' := [.ref 66]) rfl (jl_aloadn gL_0) ?_
        refine jx_ar (pc' := 127) (st' := [.int (i32 (1)), .ref 66]) rfl rfl rfl rfl ?_
        refine jx_ld (pc' := 128) (l' := L) (st' := [.ref 66, .int (i32 (1)), .ref 66]) rfl (jl_aloadn gL_0) ?_
        have b104 : (-3000 : Int) ≤ Gx 12 ∧ Gx 12 ≤ 3002 := hWx.1 12
        refine jr_get (pc' := 131) (i := 12) (v := .int (i32 (Gx 12))) rfl rfl (by decide) rfl rfl ?_
        refine jx_vr (pc' := 134) (as := [.int (i32 (1)), .int (i32 (Gx 12))]) (st := []) rfl rfl rfl rfl ⟨rfl, rfl, Nat.le_of_ble_eq_true rfl⟩ rfl rfl (c_fail (dd := d) (hd := by omega) (hW := hWx) (kind := 1) (place := Gx 12) (fk := fk1) (e_fk := show Gx 16 = fk1 from (ex_fk1))  (h_kind := ⟨(by decide), (by decide)⟩) (h_place := ⟨(Int.le_trans (by decide : (-2147483648 : Int) ≤ -3000) b104.1), (Int.le_trans b104.2 (by decide : (3002 : Int) ≤ 2147483647))⟩)  (p_0 := by omega) (p_1 := by omega)) (fun o V' hq => ?_)
        obtain ⟨G105, A106, fk2_107, rfl, rfl, hW108, hF109, e110, p111, -⟩ := hq
        have hF113 := Fr_tr hFx hF109 (Fr_sub (by decide)) (Fr_sub (by decide))
        have hS114 := Fx_f hSx hF109 (by decide)
        have bfk2_107 : (0 : Int) ≤ fk2_107 ∧ fk2_107 ≤ 6 := e110 ▸ hW108.1 16
        refine .inl ⟨rfl, ?_⟩
        refine jx_rt (v := none) rfl rfl rfl rfl rfl rfl ?_
        exact ⟨_, _, at1, fk2_107, sy, na, rfl, rfl, hW108, hF113, hS114, ((hF109.1 10 rfl).trans (ex_at1)), (e110), ((hF109.1 19 rfl).trans (fx_19)), ((hF109.1 28 rfl).trans (fx_28)), by omega, by omega, by omega, by omega, by first | exact Or.inl (by omega)⟩
    · have _q := h101
      exact absurd h101 (by omega)
set_option maxRecDepth 20000 in
set_option maxHeartbeats 4000000 in
theorem c_readParameter {X : jX} {dd : Nat} {c0 c1 : jC} {G : Nat → Int} {A : Nat → Nat → Int} {T : jH} {fr : Int} {ln le at0 fk tk0 sy na : Int} (hd : 8 ≤ dd) (hW : Wk G A) (e_ln : G 9 = ln) (e_le : A 4 (ln).toNat = le) (e_at0 : G 10 = at0) (e_fk : G 16 = fk) (e_tk0 : G 11 = tk0) (e_sy : G 19 = sy) (e_na : G 28 = na) (h_fr : (-2147483648 : Int) ≤ fr ∧ fr ≤ 2147483647) (p_0 : fk = 0) (p_1 : at0 ≤ le) (p_2 : 0 ≤ fr ∧ fr ≤ sy) (p_3 : sy ≤ na + 2) : wk X dd 309 [.ref 66, .int (i32 fr)] (rV c0 c1 G A T) (fun o V' => ∃ (G' : Nat → Int) (A' : Nat → Nat → Int) (at2 : Int) (fk2 : Int) (sy2 : Int) (na2 : Int), V' = rV c0 c1 G' A' T ∧ o = .inl none ∧ Wk G' A' ∧ Fr [10, 11, 12, 13, 14, 16, 17, 18, 19, 28] [6, 7, 8, 9, 10, 11, 12] G A G' A' ∧ Fx sr (sy) A A' ∧ G' 10 = at2 ∧ G' 16 = fk2 ∧ G' 19 = sy2 ∧ G' 28 = na2 ∧ (at0 ≤ at2) ∧ (at2 ≤ le) ∧ (sy ≤ sy2) ∧ (sy2 ≤ na2 + 2) ∧ (((1 ≤ fk2)) ∨ ((fk2 = 0) ∧ (sy2 = sy + 1) ∧ (MP A' (sy))))) := by
  obtain ⟨d, rfl⟩ : ∃ d, dd = d + 1 := ⟨dd - 1, by omega⟩
  refine wk_of (e := jm309) rfl (Nat.le_of_ble_eq_true rfl) ?_
  show wj X d jm309 (0, [(0, .ref 66), (1, .int (i32 (fr)))], [], rV c0 c1 G A T) _
  have hF0 : Fr [10, 11, 12, 13, 14, 16, 17, 18, 19, 28] [6, 7, 8, 9, 10, 11, 12] G A G A := Fr_rf
  have hS0 : Fx sr (sy) A A := Fx_rf
  have b_ln : (0 : Int) ≤ ln ∧ ln ≤ 3000 := e_ln ▸ hW.1 9
  have b_le : (0 : Int) ≤ le ∧ le ≤ 3000 := e_le ▸ hW.2 4 _
  have b_at0 : (0 : Int) ≤ at0 ∧ at0 ≤ 3002 := e_at0 ▸ hW.1 10
  have b_fk : (0 : Int) ≤ fk ∧ fk ≤ 6 := e_fk ▸ hW.1 16
  have b_tk0 : (0 : Int) ≤ tk0 ∧ tk0 ≤ 5 := e_tk0 ▸ hW.1 11
  have b_sy : (0 : Int) ≤ sy ∧ sy ≤ 202 := e_sy ▸ hW.1 19
  have b_na : (0 : Int) ≤ na ∧ na ≤ 200 := e_na ▸ hW.1 28
  refine jx_ar (pc' := 2) (st' := [.int (i32 (6))]) rfl rfl rfl rfl ?_
  refine jx_ld (pc' := 3) (l' := jSto1 [(0, .ref 66), (1, .int (i32 (fr)))] 2 (.int (i32 (6)))) (st' := []) rfl rfl ?_
  obtain ⟨L115, eL115⟩ : ∃ q, q = jSto1 [(0, .ref 66), (1, .int (i32 (fr)))] 2 (.int (i32 (6))) := ⟨_, rfl⟩
  rw [← eL115]
  have gL115_0 : jGet L115 0 = some (.ref 66) := eL115 ▸ jg_ne (by decide) (rfl : jGet [(0, .ref 66), (1, .int (i32 (fr)))] 0 = some (.ref 66)) rfl
  have gL115_1 : jGet L115 1 = some (.int (i32 (fr))) := eL115 ▸ jg_ne (by decide) (rfl : jGet [(0, .ref 66), (1, .int (i32 (fr)))] 1 = some (.int (i32 (fr)))) rfl
  have gL115_2 : jGet L115 2 = some (.int (i32 (6))) := eL115 ▸ jg_eq
  refine jx_ar (pc' := 4) (st' := [.int (i32 (1))]) rfl rfl rfl rfl ?_
  refine jx_ld (pc' := 5) (l' := jSto1 L115 3 (.int (i32 (1)))) (st' := []) rfl rfl ?_
  obtain ⟨L116, eL116⟩ : ∃ q, q = jSto1 L115 3 (.int (i32 (1))) := ⟨_, rfl⟩
  rw [← eL116]
  have gL116_0 : jGet L116 0 = some (.ref 66) := eL116 ▸ jg_ne (by decide) gL115_0 rfl
  have gL116_1 : jGet L116 1 = some (.int (i32 (fr))) := eL116 ▸ jg_ne (by decide) gL115_1 rfl
  have gL116_2 : jGet L116 2 = some (.int (i32 (6))) := eL116 ▸ jg_ne (by decide) gL115_2 rfl
  have gL116_3 : jGet L116 3 = some (.int (i32 (1))) := eL116 ▸ jg_eq
  refine jx_ld (pc' := 6) (l' := L116) (st' := [.ref 66]) rfl (jl_aloadn gL116_0) ?_
  refine jx_ar (pc' := 8) (st' := [.int (i32 (11)), .ref 66]) rfl rfl rfl rfl ?_
  have b117 : (-2147483648 : Int) ≤ G 13 ∧ G 13 ≤ 2147483647 := hW.1 13
  refine jx_vr (pc' := 11) (as := [.int (i32 (11))]) (st := []) rfl rfl rfl rfl ⟨rfl, rfl, Nat.le_of_ble_eq_true rfl⟩ rfl rfl (c_isKey (dd := d) (hd := by omega) (hW := hW) (k := 11) (tk := tk0) (e_tk := show G 11 = tk0 from (e_tk0)) (tn := G 13) (e_tn := show G 13 = G 13 from rfl)  (h_k := ⟨(by decide), (by decide)⟩)  ) (fun o V' hq => ?_)
  obtain ⟨r118, rfl, rfl, b119, q120⟩ := hq
  refine .inr ⟨_, rfl, ?_⟩
  rcases q120 with ⟨rfl, a121, a122, a123⟩ | rfl
  · have _q : True := trivial
    refine jx_if_eq (pc' := 14) (tg := 33) rfl rfl rfl (by decide) (by decide) (fun h124 => ?_) (fun h124 => ?_)
    · have _q := h124
      exact absurd h124 (by omega)
    · have _q := h124
      refine jx_ar (pc' := 15) (st' := [.int (i32 (5))]) rfl rfl rfl rfl ?_
      refine jx_ld (pc' := 16) (l' := jSto1 L116 2 (.int (i32 (5)))) (st' := []) rfl rfl ?_
      obtain ⟨L125, eL125⟩ : ∃ q, q = jSto1 L116 2 (.int (i32 (5))) := ⟨_, rfl⟩
      rw [← eL125]
      have gL125_0 : jGet L125 0 = some (.ref 66) := eL125 ▸ jg_ne (by decide) gL116_0 rfl
      have gL125_1 : jGet L125 1 = some (.int (i32 (fr))) := eL125 ▸ jg_ne (by decide) gL116_1 rfl
      have gL125_3 : jGet L125 3 = some (.int (i32 (1))) := eL125 ▸ jg_ne (by decide) gL116_3 rfl
      have gL125_2 : jGet L125 2 = some (.int (i32 (5))) := eL125 ▸ jg_eq
      refine jx_ld (pc' := 17) (l' := L125) (st' := [.ref 66]) rfl (jl_aloadn gL125_0) ?_
      refine jx_vr (pc' := 20) (as := []) (st := []) rfl rfl rfl rfl ⟨rfl, rfl, Nat.le_of_ble_eq_true rfl⟩ rfl rfl (c_next (dd := d) (hd := by omega) (hW := hW)  (ln := ln) (e_ln := show G 9 = ln from (e_ln)) (le := le) (e_le := show A 4 (ln).toNat = le from (e_le)) (at0 := at0) (e_at0 := show G 10 = at0 from (e_at0))    (p_0 := by omega)) (fun o V' hq => ?_)
      obtain ⟨G126, A127, at2_128, tk2_129, rfl, rfl, hW130, hF131, e132, e133, p134, p135, p136, -⟩ := hq
      have hF138 := Fr_tr hF0 hF131 (Fr_sub (by decide)) (Fr_sub (by decide))
      have hS139 := Fx_f hS0 hF131 (by decide)
      have bat2_128 : (0 : Int) ≤ at2_128 ∧ at2_128 ≤ 3002 := e132 ▸ hW130.1 10
      have ztk2_129 := tz_b tk2_129
      have btk2_129 : (0 : Int) ≤ tk2_129 ∧ tk2_129 ≤ 5 := e133 ▸ hW130.1 11
      refine .inl ⟨rfl, ?_⟩
      refine jx_ld (pc' := 21) (l' := L125) (st' := [.ref 66]) rfl (jl_aloadn gL125_0) ?_
      refine jx_ld (pc' := 22) (l' := L125) (st' := [.ref 66, .ref 66]) rfl (jl_aloadn gL125_0) ?_
      refine jx_ar (pc' := 24) (st' := [.int (i32 (9)), .ref 66, .ref 66]) rfl rfl rfl rfl ?_
      have b140 : (-2147483648 : Int) ≤ G126 13 ∧ G126 13 ≤ 2147483647 := hW130.1 13
      refine jx_vr (pc' := 27) (as := [.int (i32 (9))]) (st := [.ref 66]) rfl rfl rfl rfl ⟨rfl, rfl, Nat.le_of_ble_eq_true rfl⟩ rfl rfl (c_isKey (dd := d) (hd := by omega) (hW := hW130) (k := 9) (tk := tk2_129) (e_tk := show G126 11 = tk2_129 from (e133)) (tn := G126 13) (e_tn := show G126 13 = G126 13 from rfl)  (h_k := ⟨(by decide), (by decide)⟩)  ) (fun o V' hq => ?_)
      obtain ⟨r141, rfl, rfl, b142, q143⟩ := hq
      refine .inr ⟨_, rfl, ?_⟩
      rcases q143 with ⟨rfl, a144, a145, a146⟩ | rfl
      · have _q : True := trivial
        refine jx_vr (pc' := 30) (as := [.int (i32 (1))]) (st := []) rfl rfl rfl rfl ⟨rfl, rfl, Nat.le_of_ble_eq_true rfl⟩ rfl rfl (c_need (dd := d) (hd := by omega) (hW := hW130) (g := 1) (ln := ln) (e_ln := show G126 9 = ln from ((hF131.1 9 rfl).trans (e_ln))) (le := le) (e_le := show A127 4 (ln).toNat = le from (congrFun (hF131.2 4 rfl) _).trans (e_le)) (at0 := at2_128) (e_at0 := show G126 10 = at2_128 from (e132)) (fk := fk) (e_fk := show G126 16 = fk from ((hF131.1 16 rfl).trans (e_fk))) (tk0 := tk2_129) (e_tk0 := show G126 11 = tk2_129 from (e133))  (h_g := ⟨(by decide), (by decide)⟩)  (p_0 := by omega)) (fun o V' hq => ?_)
        obtain ⟨G147, A148, at2_149, tk2_150, fk2_151, rfl, rfl, hW152, hF153, e154, e155, e156, p157, p158, q159⟩ := hq
        have hF160 := Fr_tr hF138 hF153 (Fr_sub (by decide)) (Fr_sub (by decide))
        have hS161 := Fx_f hS139 hF153 (by decide)
        have bat2_149 : (0 : Int) ≤ at2_149 ∧ at2_149 ≤ 3002 := e154 ▸ hW152.1 10
        have ztk2_150 := tz_b tk2_150
        have btk2_150 : (0 : Int) ≤ tk2_150 ∧ tk2_150 ≤ 5 := e155 ▸ hW152.1 11
        have bfk2_151 : (0 : Int) ≤ fk2_151 ∧ fk2_151 ≤ 6 := e156 ▸ hW152.1 16
        refine .inl ⟨rfl, ?_⟩
        rcases q159 with ⟨a162, a163, a164, a165⟩ | ⟨a166, a167, a168, a169⟩
        · have _q : True := trivial
          refine jx_go (tg := 109) rfl rfl ?_
          refine jx_ld (pc' := 110) (l' := L125) (st' := [.ref 66]) rfl (jl_aloadn gL125_0) ?_
          refine jx_vr (pc' := 113) (as := []) (st := []) rfl rfl rfl rfl ⟨rfl, rfl, Nat.le_of_ble_eq_true rfl⟩ rfl rfl (c_bad (dd := d) (hd := by omega) (hW := hW152)  (fk := fk2_151) (e_fk := show G147 16 = fk2_151 from (e156))    ) (fun o V' hq => ?_)
          obtain ⟨r170, rfl, rfl, b171, q172⟩ := hq
          refine .inr ⟨_, rfl, ?_⟩
          rcases q172 with ⟨rfl, a173⟩ | ⟨rfl, a174⟩
          · have _q : True := trivial
            refine jx_if_eq (pc' := 116) (tg := 117) rfl rfl rfl (by decide) (by decide) (fun h175 => ?_) (fun h175 => ?_)
            · have _q := h175
              exact absurd h175 (by omega)
            · have _q := h175
              refine jx_rt (v := none) rfl rfl rfl rfl rfl rfl ?_
              exact ⟨_, _, at2_149, fk2_151, sy, na, rfl, rfl, hW152, hF160, hS161, (e154), (e156), ((hF153.1 19 rfl).trans ((hF131.1 19 rfl).trans (e_sy))), ((hF153.1 28 rfl).trans ((hF131.1 28 rfl).trans (e_na))), by omega, by omega, by omega, by omega, by first | exact Or.inl (by omega)⟩
          · have _q : True := trivial
            exfalso
            omega
        · have _q : True := trivial
          refine jx_go (tg := 109) rfl rfl ?_
          exact c_readParameter_at_109 (X := X) (d := d) (c0 := c0) (c1 := c1) (G := G) (A := A) (T := T) (fr := fr) (ln := ln) (le := le) (at0 := at0) (fk := fk) (tk0 := tk0) (sy := sy) (na := na) (hd := hd) (hW := hW) (e_ln := e_ln) (e_le := e_le) (e_at0 := e_at0) (e_fk := e_fk) (e_tk0 := e_tk0) (e_sy := e_sy) (e_na := e_na) (h_fr := h_fr) (p_0 := p_0) (p_1 := p_1) (p_2 := p_2) (p_3 := p_3) L125 G147 A148 (5) (1) (at2_149) (tk2_150) (fk2_151) gL125_0 gL125_1 gL125_2 gL125_3 hW152 hF160 hS161 ((e154)) ((e155)) ((e156)) (((hF153.1 9 rfl).trans ((hF131.1 9 rfl).trans (e_ln)))) (((hF153.1 19 rfl).trans ((hF131.1 19 rfl).trans (e_sy)))) (((hF153.1 28 rfl).trans ((hF131.1 28 rfl).trans (e_na)))) (by omega) (by omega) (by omega) (by omega) (by omega) (by omega)
      · have _q : True := trivial
        refine jx_vr (pc' := 30) (as := [.int (i32 (0))]) (st := []) rfl rfl rfl rfl ⟨rfl, rfl, Nat.le_of_ble_eq_true rfl⟩ rfl rfl (c_need (dd := d) (hd := by omega) (hW := hW130) (g := 0) (ln := ln) (e_ln := show G126 9 = ln from ((hF131.1 9 rfl).trans (e_ln))) (le := le) (e_le := show A127 4 (ln).toNat = le from (congrFun (hF131.2 4 rfl) _).trans (e_le)) (at0 := at2_128) (e_at0 := show G126 10 = at2_128 from (e132)) (fk := fk) (e_fk := show G126 16 = fk from ((hF131.1 16 rfl).trans (e_fk))) (tk0 := tk2_129) (e_tk0 := show G126 11 = tk2_129 from (e133))  (h_g := ⟨(by decide), (by decide)⟩)  (p_0 := by omega)) (fun o V' hq => ?_)
        obtain ⟨G176, A177, at2_178, tk2_179, fk2_180, rfl, rfl, hW181, hF182, e183, e184, e185, p186, p187, q188⟩ := hq
        have hF189 := Fr_tr hF138 hF182 (Fr_sub (by decide)) (Fr_sub (by decide))
        have hS190 := Fx_f hS139 hF182 (by decide)
        have bat2_178 : (0 : Int) ≤ at2_178 ∧ at2_178 ≤ 3002 := e183 ▸ hW181.1 10
        have ztk2_179 := tz_b tk2_179
        have btk2_179 : (0 : Int) ≤ tk2_179 ∧ tk2_179 ≤ 5 := e184 ▸ hW181.1 11
        have bfk2_180 : (0 : Int) ≤ fk2_180 ∧ fk2_180 ≤ 6 := e185 ▸ hW181.1 16
        refine .inl ⟨rfl, ?_⟩
        rcases q188 with ⟨a191, a192, a193, a194⟩ | ⟨a195, a196, a197, a198⟩
        · have _q : True := trivial
          refine jx_go (tg := 109) rfl rfl ?_
          refine jx_ld (pc' := 110) (l' := L125) (st' := [.ref 66]) rfl (jl_aloadn gL125_0) ?_
          refine jx_vr (pc' := 113) (as := []) (st := []) rfl rfl rfl rfl ⟨rfl, rfl, Nat.le_of_ble_eq_true rfl⟩ rfl rfl (c_bad (dd := d) (hd := by omega) (hW := hW181)  (fk := fk2_180) (e_fk := show G176 16 = fk2_180 from (e185))    ) (fun o V' hq => ?_)
          obtain ⟨r199, rfl, rfl, b200, q201⟩ := hq
          refine .inr ⟨_, rfl, ?_⟩
          rcases q201 with ⟨rfl, a202⟩ | ⟨rfl, a203⟩
          · have _q : True := trivial
            refine jx_if_eq (pc' := 116) (tg := 117) rfl rfl rfl (by decide) (by decide) (fun h204 => ?_) (fun h204 => ?_)
            · have _q := h204
              exact absurd h204 (by omega)
            · have _q := h204
              refine jx_rt (v := none) rfl rfl rfl rfl rfl rfl ?_
              exact ⟨_, _, at2_178, fk2_180, sy, na, rfl, rfl, hW181, hF189, hS190, (e183), (e185), ((hF182.1 19 rfl).trans ((hF131.1 19 rfl).trans (e_sy))), ((hF182.1 28 rfl).trans ((hF131.1 28 rfl).trans (e_na))), by omega, by omega, by omega, by omega, by first | exact Or.inl (by omega)⟩
          · have _q : True := trivial
            exfalso
            omega
        · have _q : True := trivial
          exfalso
          omega
  · have _q : True := trivial
    refine jx_if_eq (pc' := 14) (tg := 33) rfl rfl rfl (by decide) (by decide) (fun h205 => ?_) (fun h205 => ?_)
    · have _q := h205
      refine jx_ld (pc' := 34) (l' := L116) (st' := [.ref 66]) rfl (jl_aloadn gL116_0) ?_
      refine jx_ar (pc' := 36) (st' := [.int (i32 (10)), .ref 66]) rfl rfl rfl rfl ?_
      refine jx_vr (pc' := 39) (as := [.int (i32 (10))]) (st := []) rfl rfl rfl rfl ⟨rfl, rfl, Nat.le_of_ble_eq_true rfl⟩ rfl rfl (c_isKey (dd := d) (hd := by omega) (hW := hW) (k := 10) (tk := tk0) (e_tk := show G 11 = tk0 from (e_tk0)) (tn := G 13) (e_tn := show G 13 = G 13 from rfl)  (h_k := ⟨(by decide), (by decide)⟩)  ) (fun o V' hq => ?_)
      obtain ⟨r206, rfl, rfl, b207, q208⟩ := hq
      refine .inr ⟨_, rfl, ?_⟩
      rcases q208 with ⟨rfl, a209, a210, a211⟩ | rfl
      · have _q : True := trivial
        refine jx_if_eq (pc' := 42) (tg := 52) rfl rfl rfl (by decide) (by decide) (fun h212 => ?_) (fun h212 => ?_)
        · have _q := h212
          exact absurd h212 (by omega)
        · have _q := h212
          refine jx_ar (pc' := 44) (st' := [.int (i32 (8))]) rfl rfl rfl rfl ?_
          refine jx_ld (pc' := 45) (l' := jSto1 L116 2 (.int (i32 (8)))) (st' := []) rfl rfl ?_
          obtain ⟨L213, eL213⟩ : ∃ q, q = jSto1 L116 2 (.int (i32 (8))) := ⟨_, rfl⟩
          rw [← eL213]
          have gL213_0 : jGet L213 0 = some (.ref 66) := eL213 ▸ jg_ne (by decide) gL116_0 rfl
          have gL213_1 : jGet L213 1 = some (.int (i32 (fr))) := eL213 ▸ jg_ne (by decide) gL116_1 rfl
          have gL213_3 : jGet L213 3 = some (.int (i32 (1))) := eL213 ▸ jg_ne (by decide) gL116_3 rfl
          have gL213_2 : jGet L213 2 = some (.int (i32 (8))) := eL213 ▸ jg_eq
          refine jx_ld (pc' := 46) (l' := L213) (st' := [.ref 66]) rfl (jl_aloadn gL213_0) ?_
          refine jx_vr (pc' := 49) (as := []) (st := []) rfl rfl rfl rfl ⟨rfl, rfl, Nat.le_of_ble_eq_true rfl⟩ rfl rfl (c_next (dd := d) (hd := by omega) (hW := hW)  (ln := ln) (e_ln := show G 9 = ln from (e_ln)) (le := le) (e_le := show A 4 (ln).toNat = le from (e_le)) (at0 := at0) (e_at0 := show G 10 = at0 from (e_at0))    (p_0 := by omega)) (fun o V' hq => ?_)
          obtain ⟨G214, A215, at2_216, tk2_217, rfl, rfl, hW218, hF219, e220, e221, p222, p223, p224, -⟩ := hq
          have hF226 := Fr_tr hF0 hF219 (Fr_sub (by decide)) (Fr_sub (by decide))
          have hS227 := Fx_f hS0 hF219 (by decide)
          have bat2_216 : (0 : Int) ≤ at2_216 ∧ at2_216 ≤ 3002 := e220 ▸ hW218.1 10
          have ztk2_217 := tz_b tk2_217
          have btk2_217 : (0 : Int) ≤ tk2_217 ∧ tk2_217 ≤ 5 := e221 ▸ hW218.1 11
          refine .inl ⟨rfl, ?_⟩
          refine jx_go (tg := 109) rfl rfl ?_
          exact c_readParameter_at_109 (X := X) (d := d) (c0 := c0) (c1 := c1) (G := G) (A := A) (T := T) (fr := fr) (ln := ln) (le := le) (at0 := at0) (fk := fk) (tk0 := tk0) (sy := sy) (na := na) (hd := hd) (hW := hW) (e_ln := e_ln) (e_le := e_le) (e_at0 := e_at0) (e_fk := e_fk) (e_tk0 := e_tk0) (e_sy := e_sy) (e_na := e_na) (h_fr := h_fr) (p_0 := p_0) (p_1 := p_1) (p_2 := p_2) (p_3 := p_3) L213 G214 A215 (8) (1) (at2_216) (tk2_217) (fk) gL213_0 gL213_1 gL213_2 gL213_3 hW218 hF226 hS227 ((e220)) ((e221)) (((hF219.1 16 rfl).trans (e_fk))) (((hF219.1 9 rfl).trans (e_ln))) (((hF219.1 19 rfl).trans (e_sy))) (((hF219.1 28 rfl).trans (e_na))) (by omega) (by omega) (by omega) (by omega) (by omega) (by omega)
      · have _q : True := trivial
        refine jx_if_eq (pc' := 42) (tg := 52) rfl rfl rfl (by decide) (by decide) (fun h228 => ?_) (fun h228 => ?_)
        · have _q := h228
          refine jx_ld (pc' := 53) (l' := L116) (st' := [.ref 66]) rfl (jl_aloadn gL116_0) ?_
          refine jx_ar (pc' := 55) (st' := [.int (i32 (91)), .ref 66]) rfl rfl rfl rfl ?_
          refine jx_vr (pc' := 58) (as := [.int (i32 (91))]) (st := []) rfl rfl rfl rfl ⟨rfl, rfl, Nat.le_of_ble_eq_true rfl⟩ rfl rfl (c_is (dd := d) (hd := by omega) (hW := hW) (k := 91) (tk := tk0) (e_tk := show G 11 = tk0 from (e_tk0)) (tn := G 13) (e_tn := show G 13 = G 13 from rfl)  (h_k := ⟨(by decide), (by decide)⟩)  ) (fun o V' hq => ?_)
          obtain ⟨r229, rfl, rfl, b230, q231⟩ := hq
          refine .inr ⟨_, rfl, ?_⟩
          rcases q231 with ⟨rfl, a232, a233, a234⟩ | rfl
          · have _q : True := trivial
            refine jx_if_eq (pc' := 61) (tg := 99) rfl rfl rfl (by decide) (by decide) (fun h235 => ?_) (fun h235 => ?_)
            · have _q := h235
              exact absurd h235 (by omega)
            · have _q := h235
              refine jx_ar (pc' := 63) (st' := [.int (i32 (7))]) rfl rfl rfl rfl ?_
              refine jx_ld (pc' := 64) (l' := jSto1 L116 2 (.int (i32 (7)))) (st' := []) rfl rfl ?_
              obtain ⟨L236, eL236⟩ : ∃ q, q = jSto1 L116 2 (.int (i32 (7))) := ⟨_, rfl⟩
              rw [← eL236]
              have gL236_0 : jGet L236 0 = some (.ref 66) := eL236 ▸ jg_ne (by decide) gL116_0 rfl
              have gL236_1 : jGet L236 1 = some (.int (i32 (fr))) := eL236 ▸ jg_ne (by decide) gL116_1 rfl
              have gL236_3 : jGet L236 3 = some (.int (i32 (1))) := eL236 ▸ jg_ne (by decide) gL116_3 rfl
              have gL236_2 : jGet L236 2 = some (.int (i32 (7))) := eL236 ▸ jg_eq
              refine jx_ld (pc' := 65) (l' := L236) (st' := [.ref 66]) rfl (jl_aloadn gL236_0) ?_
              refine jx_vr (pc' := 68) (as := []) (st := []) rfl rfl rfl rfl ⟨rfl, rfl, Nat.le_of_ble_eq_true rfl⟩ rfl rfl (c_next (dd := d) (hd := by omega) (hW := hW)  (ln := ln) (e_ln := show G 9 = ln from (e_ln)) (le := le) (e_le := show A 4 (ln).toNat = le from (e_le)) (at0 := at0) (e_at0 := show G 10 = at0 from (e_at0))    (p_0 := by omega)) (fun o V' hq => ?_)
              obtain ⟨G237, A238, at2_239, tk2_240, rfl, rfl, hW241, hF242, e243, e244, p245, p246, p247, -⟩ := hq
              have hF249 := Fr_tr hF0 hF242 (Fr_sub (by decide)) (Fr_sub (by decide))
              have hS250 := Fx_f hS0 hF242 (by decide)
              have bat2_239 : (0 : Int) ≤ at2_239 ∧ at2_239 ≤ 3002 := e243 ▸ hW241.1 10
              have ztk2_240 := tz_b tk2_240
              have btk2_240 : (0 : Int) ≤ tk2_240 ∧ tk2_240 ≤ 5 := e244 ▸ hW241.1 11
              refine .inl ⟨rfl, ?_⟩
              refine jx_ld (pc' := 69) (l' := L236) (st' := [.ref 66]) rfl (jl_aloadn gL236_0) ?_
              refine jx_ar (pc' := 70) (st' := [.int (i32 (1)), .ref 66]) rfl rfl rfl rfl ?_
              refine jx_ar (pc' := 72) (st' := [.int (i32 (64)), .int (i32 (1)), .ref 66]) rfl rfl rfl rfl ?_
              refine jx_vr (pc' := 75) (as := [.int (i32 (1)), .int (i32 (64))]) (st := []) rfl rfl rfl rfl ⟨rfl, rfl, Nat.le_of_ble_eq_true rfl⟩ rfl rfl (c_needNumber (dd := d) (hd := by omega) (hW := hW241) (lo := 1) (hi := 64) (ln := ln) (e_ln := show G237 9 = ln from ((hF242.1 9 rfl).trans (e_ln))) (le := le) (e_le := show A238 4 (ln).toNat = le from (congrFun (hF242.2 4 rfl) _).trans (e_le)) (at0 := at2_239) (e_at0 := show G237 10 = at2_239 from (e243)) (fk := fk) (e_fk := show G237 16 = fk from ((hF242.1 16 rfl).trans (e_fk))) (tk0 := tk2_240) (e_tk0 := show G237 11 = tk2_240 from (e244))  (h_lo := ⟨(by decide), (by decide)⟩) (h_hi := ⟨(by decide), (by decide)⟩)  (p_0 := by omega)) (fun o V' hq => ?_)
              obtain ⟨G251, A252, r253, at2_254, tk2_255, fk2_256, rfl, rfl, hW257, hF258, b259, e260, e261, e262, p263, p264, q265⟩ := hq
              have hF266 := Fr_tr hF249 hF258 (Fr_sub (by decide)) (Fr_sub (by decide))
              have hS267 := Fx_f hS250 hF258 (by decide)
              have bat2_254 : (0 : Int) ≤ at2_254 ∧ at2_254 ≤ 3002 := e260 ▸ hW257.1 10
              have ztk2_255 := tz_b tk2_255
              have btk2_255 : (0 : Int) ≤ tk2_255 ∧ tk2_255 ≤ 5 := e261 ▸ hW257.1 11
              have bfk2_256 : (0 : Int) ≤ fk2_256 ∧ fk2_256 ≤ 6 := e262 ▸ hW257.1 16
              refine .inr ⟨_, rfl, ?_⟩
              rcases q265 with ⟨a268, a269, a270, a271⟩ | ⟨a272, a273, a274, a275, a276⟩
              · have _q : True := trivial
                refine jx_ld (pc' := 76) (l' := jSto1 L236 3 (.int (i32 (r253)))) (st' := []) rfl rfl ?_
                obtain ⟨L277, eL277⟩ : ∃ q, q = jSto1 L236 3 (.int (i32 (r253))) := ⟨_, rfl⟩
                rw [← eL277]
                have gL277_0 : jGet L277 0 = some (.ref 66) := eL277 ▸ jg_ne (by decide) gL236_0 rfl
                have gL277_1 : jGet L277 1 = some (.int (i32 (fr))) := eL277 ▸ jg_ne (by decide) gL236_1 rfl
                have gL277_2 : jGet L277 2 = some (.int (i32 (7))) := eL277 ▸ jg_ne (by decide) gL236_2 rfl
                have gL277_3 : jGet L277 3 = some (.int (i32 (r253))) := eL277 ▸ jg_eq
                refine jx_ld (pc' := 77) (l' := L277) (st' := [.ref 66]) rfl (jl_aloadn gL277_0) ?_
                refine jx_ld (pc' := 78) (l' := L277) (st' := [.ref 66, .ref 66]) rfl (jl_aloadn gL277_0) ?_
                refine jx_ar (pc' := 80) (st' := [.int (i32 (93)), .ref 66, .ref 66]) rfl rfl rfl rfl ?_
                have b278 : (-2147483648 : Int) ≤ G251 13 ∧ G251 13 ≤ 2147483647 := hW257.1 13
                refine jx_vr (pc' := 83) (as := [.int (i32 (93))]) (st := [.ref 66]) rfl rfl rfl rfl ⟨rfl, rfl, Nat.le_of_ble_eq_true rfl⟩ rfl rfl (c_is (dd := d) (hd := by omega) (hW := hW257) (k := 93) (tk := tk2_255) (e_tk := show G251 11 = tk2_255 from (e261)) (tn := G251 13) (e_tn := show G251 13 = G251 13 from rfl)  (h_k := ⟨(by decide), (by decide)⟩)  ) (fun o V' hq => ?_)
                obtain ⟨r279, rfl, rfl, b280, q281⟩ := hq
                refine .inr ⟨_, rfl, ?_⟩
                rcases q281 with ⟨rfl, a282, a283, a284⟩ | rfl
                · have _q : True := trivial
                  refine jx_vr (pc' := 86) (as := [.int (i32 (1))]) (st := []) rfl rfl rfl rfl ⟨rfl, rfl, Nat.le_of_ble_eq_true rfl⟩ rfl rfl (c_need (dd := d) (hd := by omega) (hW := hW257) (g := 1) (ln := ln) (e_ln := show G251 9 = ln from ((hF258.1 9 rfl).trans ((hF242.1 9 rfl).trans (e_ln)))) (le := le) (e_le := show A252 4 (ln).toNat = le from (congrFun ((hF258.2 4 rfl).trans (hF242.2 4 rfl)) _).trans (e_le)) (at0 := at2_254) (e_at0 := show G251 10 = at2_254 from (e260)) (fk := fk2_256) (e_fk := show G251 16 = fk2_256 from (e262)) (tk0 := tk2_255) (e_tk0 := show G251 11 = tk2_255 from (e261))  (h_g := ⟨(by decide), (by decide)⟩)  (p_0 := by omega)) (fun o V' hq => ?_)
                  obtain ⟨G285, A286, at2_287, tk2_288, fk2_289, rfl, rfl, hW290, hF291, e292, e293, e294, p295, p296, q297⟩ := hq
                  have hF298 := Fr_tr hF266 hF291 (Fr_sub (by decide)) (Fr_sub (by decide))
                  have hS299 := Fx_f hS267 hF291 (by decide)
                  have bat2_287 : (0 : Int) ≤ at2_287 ∧ at2_287 ≤ 3002 := e292 ▸ hW290.1 10
                  have ztk2_288 := tz_b tk2_288
                  have btk2_288 : (0 : Int) ≤ tk2_288 ∧ tk2_288 ≤ 5 := e293 ▸ hW290.1 11
                  have bfk2_289 : (0 : Int) ≤ fk2_289 ∧ fk2_289 ≤ 6 := e294 ▸ hW290.1 16
                  refine .inl ⟨rfl, ?_⟩
                  rcases q297 with ⟨a300, a301, a302, a303⟩ | ⟨a304, a305, a306, a307⟩
                  · have _q : True := trivial
                    refine jx_ld (pc' := 87) (l' := L277) (st' := [.ref 66]) rfl (jl_aloadn gL277_0) ?_
                    refine jx_ld (pc' := 88) (l' := L277) (st' := [.ref 66, .ref 66]) rfl (jl_aloadn gL277_0) ?_
                    refine jx_ar (pc' := 90) (st' := [.int (i32 (9)), .ref 66, .ref 66]) rfl rfl rfl rfl ?_
                    have b308 : (-2147483648 : Int) ≤ G285 13 ∧ G285 13 ≤ 2147483647 := hW290.1 13
                    refine jx_vr (pc' := 93) (as := [.int (i32 (9))]) (st := [.ref 66]) rfl rfl rfl rfl ⟨rfl, rfl, Nat.le_of_ble_eq_true rfl⟩ rfl rfl (c_isKey (dd := d) (hd := by omega) (hW := hW290) (k := 9) (tk := tk2_288) (e_tk := show G285 11 = tk2_288 from (e293)) (tn := G285 13) (e_tn := show G285 13 = G285 13 from rfl)  (h_k := ⟨(by decide), (by decide)⟩)  ) (fun o V' hq => ?_)
                    obtain ⟨r309, rfl, rfl, b310, q311⟩ := hq
                    refine .inr ⟨_, rfl, ?_⟩
                    rcases q311 with ⟨rfl, a312, a313, a314⟩ | rfl
                    · have _q : True := trivial
                      refine jx_vr (pc' := 96) (as := [.int (i32 (1))]) (st := []) rfl rfl rfl rfl ⟨rfl, rfl, Nat.le_of_ble_eq_true rfl⟩ rfl rfl (c_need (dd := d) (hd := by omega) (hW := hW290) (g := 1) (ln := ln) (e_ln := show G285 9 = ln from ((hF291.1 9 rfl).trans ((hF258.1 9 rfl).trans ((hF242.1 9 rfl).trans (e_ln))))) (le := le) (e_le := show A286 4 (ln).toNat = le from (congrFun ((hF291.2 4 rfl).trans ((hF258.2 4 rfl).trans (hF242.2 4 rfl))) _).trans (e_le)) (at0 := at2_287) (e_at0 := show G285 10 = at2_287 from (e292)) (fk := fk2_289) (e_fk := show G285 16 = fk2_289 from (e294)) (tk0 := tk2_288) (e_tk0 := show G285 11 = tk2_288 from (e293))  (h_g := ⟨(by decide), (by decide)⟩)  (p_0 := by omega)) (fun o V' hq => ?_)
                      obtain ⟨G315, A316, at2_317, tk2_318, fk2_319, rfl, rfl, hW320, hF321, e322, e323, e324, p325, p326, q327⟩ := hq
                      have hF328 := Fr_tr hF298 hF321 (Fr_sub (by decide)) (Fr_sub (by decide))
                      have hS329 := Fx_f hS299 hF321 (by decide)
                      have bat2_317 : (0 : Int) ≤ at2_317 ∧ at2_317 ≤ 3002 := e322 ▸ hW320.1 10
                      have ztk2_318 := tz_b tk2_318
                      have btk2_318 : (0 : Int) ≤ tk2_318 ∧ tk2_318 ≤ 5 := e323 ▸ hW320.1 11
                      have bfk2_319 : (0 : Int) ≤ fk2_319 ∧ fk2_319 ≤ 6 := e324 ▸ hW320.1 16
                      refine .inl ⟨rfl, ?_⟩
                      rcases q327 with ⟨a330, a331, a332, a333⟩ | ⟨a334, a335, a336, a337⟩
                      · have _q : True := trivial
                        refine jx_go (tg := 109) rfl rfl ?_
                        refine jx_ld (pc' := 110) (l' := L277) (st' := [.ref 66]) rfl (jl_aloadn gL277_0) ?_
                        refine jx_vr (pc' := 113) (as := []) (st := []) rfl rfl rfl rfl ⟨rfl, rfl, Nat.le_of_ble_eq_true rfl⟩ rfl rfl (c_bad (dd := d) (hd := by omega) (hW := hW320)  (fk := fk2_319) (e_fk := show G315 16 = fk2_319 from (e324))    ) (fun o V' hq => ?_)
                        obtain ⟨r338, rfl, rfl, b339, q340⟩ := hq
                        refine .inr ⟨_, rfl, ?_⟩
                        rcases q340 with ⟨rfl, a341⟩ | ⟨rfl, a342⟩
                        · have _q : True := trivial
                          refine jx_if_eq (pc' := 116) (tg := 117) rfl rfl rfl (by decide) (by decide) (fun h343 => ?_) (fun h343 => ?_)
                          · have _q := h343
                            exact absurd h343 (by omega)
                          · have _q := h343
                            refine jx_rt (v := none) rfl rfl rfl rfl rfl rfl ?_
                            exact ⟨_, _, at2_317, fk2_319, sy, na, rfl, rfl, hW320, hF328, hS329, (e322), (e324), ((hF321.1 19 rfl).trans ((hF291.1 19 rfl).trans ((hF258.1 19 rfl).trans ((hF242.1 19 rfl).trans (e_sy))))), ((hF321.1 28 rfl).trans ((hF291.1 28 rfl).trans ((hF258.1 28 rfl).trans ((hF242.1 28 rfl).trans (e_na))))), by omega, by omega, by omega, by omega, by first | exact Or.inl (by omega)⟩
                        · have _q : True := trivial
                          exfalso
                          omega
                      · have _q : True := trivial
                        exfalso
                        omega
                    · have _q : True := trivial
                      refine jx_vr (pc' := 96) (as := [.int (i32 (0))]) (st := []) rfl rfl rfl rfl ⟨rfl, rfl, Nat.le_of_ble_eq_true rfl⟩ rfl rfl (c_need (dd := d) (hd := by omega) (hW := hW290) (g := 0) (ln := ln) (e_ln := show G285 9 = ln from ((hF291.1 9 rfl).trans ((hF258.1 9 rfl).trans ((hF242.1 9 rfl).trans (e_ln))))) (le := le) (e_le := show A286 4 (ln).toNat = le from (congrFun ((hF291.2 4 rfl).trans ((hF258.2 4 rfl).trans (hF242.2 4 rfl))) _).trans (e_le)) (at0 := at2_287) (e_at0 := show G285 10 = at2_287 from (e292)) (fk := fk2_289) (e_fk := show G285 16 = fk2_289 from (e294)) (tk0 := tk2_288) (e_tk0 := show G285 11 = tk2_288 from (e293))  (h_g := ⟨(by decide), (by decide)⟩)  (p_0 := by omega)) (fun o V' hq => ?_)
                      obtain ⟨G344, A345, at2_346, tk2_347, fk2_348, rfl, rfl, hW349, hF350, e351, e352, e353, p354, p355, q356⟩ := hq
                      have hF357 := Fr_tr hF298 hF350 (Fr_sub (by decide)) (Fr_sub (by decide))
                      have hS358 := Fx_f hS299 hF350 (by decide)
                      have bat2_346 : (0 : Int) ≤ at2_346 ∧ at2_346 ≤ 3002 := e351 ▸ hW349.1 10
                      have ztk2_347 := tz_b tk2_347
                      have btk2_347 : (0 : Int) ≤ tk2_347 ∧ tk2_347 ≤ 5 := e352 ▸ hW349.1 11
                      have bfk2_348 : (0 : Int) ≤ fk2_348 ∧ fk2_348 ≤ 6 := e353 ▸ hW349.1 16
                      refine .inl ⟨rfl, ?_⟩
                      rcases q356 with ⟨a359, a360, a361, a362⟩ | ⟨a363, a364, a365, a366⟩
                      · have _q : True := trivial
                        refine jx_go (tg := 109) rfl rfl ?_
                        refine jx_ld (pc' := 110) (l' := L277) (st' := [.ref 66]) rfl (jl_aloadn gL277_0) ?_
                        refine jx_vr (pc' := 113) (as := []) (st := []) rfl rfl rfl rfl ⟨rfl, rfl, Nat.le_of_ble_eq_true rfl⟩ rfl rfl (c_bad (dd := d) (hd := by omega) (hW := hW349)  (fk := fk2_348) (e_fk := show G344 16 = fk2_348 from (e353))    ) (fun o V' hq => ?_)
                        obtain ⟨r367, rfl, rfl, b368, q369⟩ := hq
                        refine .inr ⟨_, rfl, ?_⟩
                        rcases q369 with ⟨rfl, a370⟩ | ⟨rfl, a371⟩
                        · have _q : True := trivial
                          refine jx_if_eq (pc' := 116) (tg := 117) rfl rfl rfl (by decide) (by decide) (fun h372 => ?_) (fun h372 => ?_)
                          · have _q := h372
                            exact absurd h372 (by omega)
                          · have _q := h372
                            refine jx_rt (v := none) rfl rfl rfl rfl rfl rfl ?_
                            exact ⟨_, _, at2_346, fk2_348, sy, na, rfl, rfl, hW349, hF357, hS358, (e351), (e353), ((hF350.1 19 rfl).trans ((hF291.1 19 rfl).trans ((hF258.1 19 rfl).trans ((hF242.1 19 rfl).trans (e_sy))))), ((hF350.1 28 rfl).trans ((hF291.1 28 rfl).trans ((hF258.1 28 rfl).trans ((hF242.1 28 rfl).trans (e_na))))), by omega, by omega, by omega, by omega, by first | exact Or.inl (by omega)⟩
                        · have _q : True := trivial
                          exfalso
                          omega
                      · have _q : True := trivial
                        exfalso
                        omega
                  · have _q : True := trivial
                    exfalso
                    omega
                · have _q : True := trivial
                  refine jx_vr (pc' := 86) (as := [.int (i32 (0))]) (st := []) rfl rfl rfl rfl ⟨rfl, rfl, Nat.le_of_ble_eq_true rfl⟩ rfl rfl (c_need (dd := d) (hd := by omega) (hW := hW257) (g := 0) (ln := ln) (e_ln := show G251 9 = ln from ((hF258.1 9 rfl).trans ((hF242.1 9 rfl).trans (e_ln)))) (le := le) (e_le := show A252 4 (ln).toNat = le from (congrFun ((hF258.2 4 rfl).trans (hF242.2 4 rfl)) _).trans (e_le)) (at0 := at2_254) (e_at0 := show G251 10 = at2_254 from (e260)) (fk := fk2_256) (e_fk := show G251 16 = fk2_256 from (e262)) (tk0 := tk2_255) (e_tk0 := show G251 11 = tk2_255 from (e261))  (h_g := ⟨(by decide), (by decide)⟩)  (p_0 := by omega)) (fun o V' hq => ?_)
                  obtain ⟨G373, A374, at2_375, tk2_376, fk2_377, rfl, rfl, hW378, hF379, e380, e381, e382, p383, p384, q385⟩ := hq
                  have hF386 := Fr_tr hF266 hF379 (Fr_sub (by decide)) (Fr_sub (by decide))
                  have hS387 := Fx_f hS267 hF379 (by decide)
                  have bat2_375 : (0 : Int) ≤ at2_375 ∧ at2_375 ≤ 3002 := e380 ▸ hW378.1 10
                  have ztk2_376 := tz_b tk2_376
                  have btk2_376 : (0 : Int) ≤ tk2_376 ∧ tk2_376 ≤ 5 := e381 ▸ hW378.1 11
                  have bfk2_377 : (0 : Int) ≤ fk2_377 ∧ fk2_377 ≤ 6 := e382 ▸ hW378.1 16
                  refine .inl ⟨rfl, ?_⟩
                  rcases q385 with ⟨a388, a389, a390, a391⟩ | ⟨a392, a393, a394, a395⟩
                  · have _q : True := trivial
                    refine jx_ld (pc' := 87) (l' := L277) (st' := [.ref 66]) rfl (jl_aloadn gL277_0) ?_
                    refine jx_ld (pc' := 88) (l' := L277) (st' := [.ref 66, .ref 66]) rfl (jl_aloadn gL277_0) ?_
                    refine jx_ar (pc' := 90) (st' := [.int (i32 (9)), .ref 66, .ref 66]) rfl rfl rfl rfl ?_
                    have b396 : (-2147483648 : Int) ≤ G373 13 ∧ G373 13 ≤ 2147483647 := hW378.1 13
                    refine jx_vr (pc' := 93) (as := [.int (i32 (9))]) (st := [.ref 66]) rfl rfl rfl rfl ⟨rfl, rfl, Nat.le_of_ble_eq_true rfl⟩ rfl rfl (c_isKey (dd := d) (hd := by omega) (hW := hW378) (k := 9) (tk := tk2_376) (e_tk := show G373 11 = tk2_376 from (e381)) (tn := G373 13) (e_tn := show G373 13 = G373 13 from rfl)  (h_k := ⟨(by decide), (by decide)⟩)  ) (fun o V' hq => ?_)
                    obtain ⟨r397, rfl, rfl, b398, q399⟩ := hq
                    refine .inr ⟨_, rfl, ?_⟩
                    rcases q399 with ⟨rfl, a400, a401, a402⟩ | rfl
                    · have _q : True := trivial
                      refine jx_vr (pc' := 96) (as := [.int (i32 (1))]) (st := []) rfl rfl rfl rfl ⟨rfl, rfl, Nat.le_of_ble_eq_true rfl⟩ rfl rfl (c_need (dd := d) (hd := by omega) (hW := hW378) (g := 1) (ln := ln) (e_ln := show G373 9 = ln from ((hF379.1 9 rfl).trans ((hF258.1 9 rfl).trans ((hF242.1 9 rfl).trans (e_ln))))) (le := le) (e_le := show A374 4 (ln).toNat = le from (congrFun ((hF379.2 4 rfl).trans ((hF258.2 4 rfl).trans (hF242.2 4 rfl))) _).trans (e_le)) (at0 := at2_375) (e_at0 := show G373 10 = at2_375 from (e380)) (fk := fk2_377) (e_fk := show G373 16 = fk2_377 from (e382)) (tk0 := tk2_376) (e_tk0 := show G373 11 = tk2_376 from (e381))  (h_g := ⟨(by decide), (by decide)⟩)  (p_0 := by omega)) (fun o V' hq => ?_)
                      obtain ⟨G403, A404, at2_405, tk2_406, fk2_407, rfl, rfl, hW408, hF409, e410, e411, e412, p413, p414, q415⟩ := hq
                      have hF416 := Fr_tr hF386 hF409 (Fr_sub (by decide)) (Fr_sub (by decide))
                      have hS417 := Fx_f hS387 hF409 (by decide)
                      have bat2_405 : (0 : Int) ≤ at2_405 ∧ at2_405 ≤ 3002 := e410 ▸ hW408.1 10
                      have ztk2_406 := tz_b tk2_406
                      have btk2_406 : (0 : Int) ≤ tk2_406 ∧ tk2_406 ≤ 5 := e411 ▸ hW408.1 11
                      have bfk2_407 : (0 : Int) ≤ fk2_407 ∧ fk2_407 ≤ 6 := e412 ▸ hW408.1 16
                      refine .inl ⟨rfl, ?_⟩
                      rcases q415 with ⟨a418, a419, a420, a421⟩ | ⟨a422, a423, a424, a425⟩
                      · have _q : True := trivial
                        refine jx_go (tg := 109) rfl rfl ?_
                        refine jx_ld (pc' := 110) (l' := L277) (st' := [.ref 66]) rfl (jl_aloadn gL277_0) ?_
                        refine jx_vr (pc' := 113) (as := []) (st := []) rfl rfl rfl rfl ⟨rfl, rfl, Nat.le_of_ble_eq_true rfl⟩ rfl rfl (c_bad (dd := d) (hd := by omega) (hW := hW408)  (fk := fk2_407) (e_fk := show G403 16 = fk2_407 from (e412))    ) (fun o V' hq => ?_)
                        obtain ⟨r426, rfl, rfl, b427, q428⟩ := hq
                        refine .inr ⟨_, rfl, ?_⟩
                        rcases q428 with ⟨rfl, a429⟩ | ⟨rfl, a430⟩
                        · have _q : True := trivial
                          refine jx_if_eq (pc' := 116) (tg := 117) rfl rfl rfl (by decide) (by decide) (fun h431 => ?_) (fun h431 => ?_)
                          · have _q := h431
                            exact absurd h431 (by omega)
                          · have _q := h431
                            refine jx_rt (v := none) rfl rfl rfl rfl rfl rfl ?_
                            exact ⟨_, _, at2_405, fk2_407, sy, na, rfl, rfl, hW408, hF416, hS417, (e410), (e412), ((hF409.1 19 rfl).trans ((hF379.1 19 rfl).trans ((hF258.1 19 rfl).trans ((hF242.1 19 rfl).trans (e_sy))))), ((hF409.1 28 rfl).trans ((hF379.1 28 rfl).trans ((hF258.1 28 rfl).trans ((hF242.1 28 rfl).trans (e_na))))), by omega, by omega, by omega, by omega, by first | exact Or.inl (by omega)⟩
                        · have _q : True := trivial
                          exfalso
                          omega
                      · have _q : True := trivial
                        exfalso
                        omega
                    · have _q : True := trivial
                      refine jx_vr (pc' := 96) (as := [.int (i32 (0))]) (st := []) rfl rfl rfl rfl ⟨rfl, rfl, Nat.le_of_ble_eq_true rfl⟩ rfl rfl (c_need (dd := d) (hd := by omega) (hW := hW378) (g := 0) (ln := ln) (e_ln := show G373 9 = ln from ((hF379.1 9 rfl).trans ((hF258.1 9 rfl).trans ((hF242.1 9 rfl).trans (e_ln))))) (le := le) (e_le := show A374 4 (ln).toNat = le from (congrFun ((hF379.2 4 rfl).trans ((hF258.2 4 rfl).trans (hF242.2 4 rfl))) _).trans (e_le)) (at0 := at2_375) (e_at0 := show G373 10 = at2_375 from (e380)) (fk := fk2_377) (e_fk := show G373 16 = fk2_377 from (e382)) (tk0 := tk2_376) (e_tk0 := show G373 11 = tk2_376 from (e381))  (h_g := ⟨(by decide), (by decide)⟩)  (p_0 := by omega)) (fun o V' hq => ?_)
                      obtain ⟨G432, A433, at2_434, tk2_435, fk2_436, rfl, rfl, hW437, hF438, e439, e440, e441, p442, p443, q444⟩ := hq
                      have hF445 := Fr_tr hF386 hF438 (Fr_sub (by decide)) (Fr_sub (by decide))
                      have hS446 := Fx_f hS387 hF438 (by decide)
                      have bat2_434 : (0 : Int) ≤ at2_434 ∧ at2_434 ≤ 3002 := e439 ▸ hW437.1 10
                      have ztk2_435 := tz_b tk2_435
                      have btk2_435 : (0 : Int) ≤ tk2_435 ∧ tk2_435 ≤ 5 := e440 ▸ hW437.1 11
                      have bfk2_436 : (0 : Int) ≤ fk2_436 ∧ fk2_436 ≤ 6 := e441 ▸ hW437.1 16
                      refine .inl ⟨rfl, ?_⟩
                      rcases q444 with ⟨a447, a448, a449, a450⟩ | ⟨a451, a452, a453, a454⟩
                      · have _q : True := trivial
                        refine jx_go (tg := 109) rfl rfl ?_
                        refine jx_ld (pc' := 110) (l' := L277) (st' := [.ref 66]) rfl (jl_aloadn gL277_0) ?_
                        refine jx_vr (pc' := 113) (as := []) (st := []) rfl rfl rfl rfl ⟨rfl, rfl, Nat.le_of_ble_eq_true rfl⟩ rfl rfl (c_bad (dd := d) (hd := by omega) (hW := hW437)  (fk := fk2_436) (e_fk := show G432 16 = fk2_436 from (e441))    ) (fun o V' hq => ?_)
                        obtain ⟨r455, rfl, rfl, b456, q457⟩ := hq
                        refine .inr ⟨_, rfl, ?_⟩
                        rcases q457 with ⟨rfl, a458⟩ | ⟨rfl, a459⟩
                        · have _q : True := trivial
                          refine jx_if_eq (pc' := 116) (tg := 117) rfl rfl rfl (by decide) (by decide) (fun h460 => ?_) (fun h460 => ?_)
                          · have _q := h460
                            exact absurd h460 (by omega)
                          · have _q := h460
                            refine jx_rt (v := none) rfl rfl rfl rfl rfl rfl ?_
                            exact ⟨_, _, at2_434, fk2_436, sy, na, rfl, rfl, hW437, hF445, hS446, (e439), (e441), ((hF438.1 19 rfl).trans ((hF379.1 19 rfl).trans ((hF258.1 19 rfl).trans ((hF242.1 19 rfl).trans (e_sy))))), ((hF438.1 28 rfl).trans ((hF379.1 28 rfl).trans ((hF258.1 28 rfl).trans ((hF242.1 28 rfl).trans (e_na))))), by omega, by omega, by omega, by omega, by first | exact Or.inl (by omega)⟩
                        · have _q : True := trivial
                          exfalso
                          omega
                      · have _q : True := trivial
                        exfalso
                        omega
                  · have _q : True := trivial
                    exfalso
                    omega
              · have _q : True := trivial
                refine jx_ld (pc' := 76) (l' := jSto1 L236 3 (.int (i32 (r253)))) (st' := []) rfl rfl ?_
                obtain ⟨L461, eL461⟩ : ∃ q, q = jSto1 L236 3 (.int (i32 (r253))) := ⟨_, rfl⟩
                rw [← eL461]
                have gL461_0 : jGet L461 0 = some (.ref 66) := eL461 ▸ jg_ne (by decide) gL236_0 rfl
                have gL461_1 : jGet L461 1 = some (.int (i32 (fr))) := eL461 ▸ jg_ne (by decide) gL236_1 rfl
                have gL461_2 : jGet L461 2 = some (.int (i32 (7))) := eL461 ▸ jg_ne (by decide) gL236_2 rfl
                have gL461_3 : jGet L461 3 = some (.int (i32 (r253))) := eL461 ▸ jg_eq
                refine jx_ld (pc' := 77) (l' := L461) (st' := [.ref 66]) rfl (jl_aloadn gL461_0) ?_
                refine jx_ld (pc' := 78) (l' := L461) (st' := [.ref 66, .ref 66]) rfl (jl_aloadn gL461_0) ?_
                refine jx_ar (pc' := 80) (st' := [.int (i32 (93)), .ref 66, .ref 66]) rfl rfl rfl rfl ?_
                have b462 : (-2147483648 : Int) ≤ G251 13 ∧ G251 13 ≤ 2147483647 := hW257.1 13
                refine jx_vr (pc' := 83) (as := [.int (i32 (93))]) (st := [.ref 66]) rfl rfl rfl rfl ⟨rfl, rfl, Nat.le_of_ble_eq_true rfl⟩ rfl rfl (c_is (dd := d) (hd := by omega) (hW := hW257) (k := 93) (tk := tk2_255) (e_tk := show G251 11 = tk2_255 from (e261)) (tn := G251 13) (e_tn := show G251 13 = G251 13 from rfl)  (h_k := ⟨(by decide), (by decide)⟩)  ) (fun o V' hq => ?_)
                obtain ⟨r463, rfl, rfl, b464, q465⟩ := hq
                refine .inr ⟨_, rfl, ?_⟩
                rcases q465 with ⟨rfl, a466, a467, a468⟩ | rfl
                · have _q : True := trivial
                  refine jx_vr (pc' := 86) (as := [.int (i32 (1))]) (st := []) rfl rfl rfl rfl ⟨rfl, rfl, Nat.le_of_ble_eq_true rfl⟩ rfl rfl (c_need (dd := d) (hd := by omega) (hW := hW257) (g := 1) (ln := ln) (e_ln := show G251 9 = ln from ((hF258.1 9 rfl).trans ((hF242.1 9 rfl).trans (e_ln)))) (le := le) (e_le := show A252 4 (ln).toNat = le from (congrFun ((hF258.2 4 rfl).trans (hF242.2 4 rfl)) _).trans (e_le)) (at0 := at2_254) (e_at0 := show G251 10 = at2_254 from (e260)) (fk := fk2_256) (e_fk := show G251 16 = fk2_256 from (e262)) (tk0 := tk2_255) (e_tk0 := show G251 11 = tk2_255 from (e261))  (h_g := ⟨(by decide), (by decide)⟩)  (p_0 := by omega)) (fun o V' hq => ?_)
                  obtain ⟨G469, A470, at2_471, tk2_472, fk2_473, rfl, rfl, hW474, hF475, e476, e477, e478, p479, p480, q481⟩ := hq
                  have hF482 := Fr_tr hF266 hF475 (Fr_sub (by decide)) (Fr_sub (by decide))
                  have hS483 := Fx_f hS267 hF475 (by decide)
                  have bat2_471 : (0 : Int) ≤ at2_471 ∧ at2_471 ≤ 3002 := e476 ▸ hW474.1 10
                  have ztk2_472 := tz_b tk2_472
                  have btk2_472 : (0 : Int) ≤ tk2_472 ∧ tk2_472 ≤ 5 := e477 ▸ hW474.1 11
                  have bfk2_473 : (0 : Int) ≤ fk2_473 ∧ fk2_473 ≤ 6 := e478 ▸ hW474.1 16
                  refine .inl ⟨rfl, ?_⟩
                  rcases q481 with ⟨a484, a485, a486, a487⟩ | ⟨a488, a489, a490, a491⟩
                  · have _q : True := trivial
                    refine jx_ld (pc' := 87) (l' := L461) (st' := [.ref 66]) rfl (jl_aloadn gL461_0) ?_
                    refine jx_ld (pc' := 88) (l' := L461) (st' := [.ref 66, .ref 66]) rfl (jl_aloadn gL461_0) ?_
                    refine jx_ar (pc' := 90) (st' := [.int (i32 (9)), .ref 66, .ref 66]) rfl rfl rfl rfl ?_
                    have b492 : (-2147483648 : Int) ≤ G469 13 ∧ G469 13 ≤ 2147483647 := hW474.1 13
                    refine jx_vr (pc' := 93) (as := [.int (i32 (9))]) (st := [.ref 66]) rfl rfl rfl rfl ⟨rfl, rfl, Nat.le_of_ble_eq_true rfl⟩ rfl rfl (c_isKey (dd := d) (hd := by omega) (hW := hW474) (k := 9) (tk := tk2_472) (e_tk := show G469 11 = tk2_472 from (e477)) (tn := G469 13) (e_tn := show G469 13 = G469 13 from rfl)  (h_k := ⟨(by decide), (by decide)⟩)  ) (fun o V' hq => ?_)
                    obtain ⟨r493, rfl, rfl, b494, q495⟩ := hq
                    refine .inr ⟨_, rfl, ?_⟩
                    rcases q495 with ⟨rfl, a496, a497, a498⟩ | rfl
                    · have _q : True := trivial
                      refine jx_vr (pc' := 96) (as := [.int (i32 (1))]) (st := []) rfl rfl rfl rfl ⟨rfl, rfl, Nat.le_of_ble_eq_true rfl⟩ rfl rfl (c_need (dd := d) (hd := by omega) (hW := hW474) (g := 1) (ln := ln) (e_ln := show G469 9 = ln from ((hF475.1 9 rfl).trans ((hF258.1 9 rfl).trans ((hF242.1 9 rfl).trans (e_ln))))) (le := le) (e_le := show A470 4 (ln).toNat = le from (congrFun ((hF475.2 4 rfl).trans ((hF258.2 4 rfl).trans (hF242.2 4 rfl))) _).trans (e_le)) (at0 := at2_471) (e_at0 := show G469 10 = at2_471 from (e476)) (fk := fk2_473) (e_fk := show G469 16 = fk2_473 from (e478)) (tk0 := tk2_472) (e_tk0 := show G469 11 = tk2_472 from (e477))  (h_g := ⟨(by decide), (by decide)⟩)  (p_0 := by omega)) (fun o V' hq => ?_)
                      obtain ⟨G499, A500, at2_501, tk2_502, fk2_503, rfl, rfl, hW504, hF505, e506, e507, e508, p509, p510, q511⟩ := hq
                      have hF512 := Fr_tr hF482 hF505 (Fr_sub (by decide)) (Fr_sub (by decide))
                      have hS513 := Fx_f hS483 hF505 (by decide)
                      have bat2_501 : (0 : Int) ≤ at2_501 ∧ at2_501 ≤ 3002 := e506 ▸ hW504.1 10
                      have ztk2_502 := tz_b tk2_502
                      have btk2_502 : (0 : Int) ≤ tk2_502 ∧ tk2_502 ≤ 5 := e507 ▸ hW504.1 11
                      have bfk2_503 : (0 : Int) ≤ fk2_503 ∧ fk2_503 ≤ 6 := e508 ▸ hW504.1 16
                      refine .inl ⟨rfl, ?_⟩
                      rcases q511 with ⟨a514, a515, a516, a517⟩ | ⟨a518, a519, a520, a521⟩
                      · have _q : True := trivial
                        refine jx_go (tg := 109) rfl rfl ?_
                        refine jx_ld (pc' := 110) (l' := L461) (st' := [.ref 66]) rfl (jl_aloadn gL461_0) ?_
                        refine jx_vr (pc' := 113) (as := []) (st := []) rfl rfl rfl rfl ⟨rfl, rfl, Nat.le_of_ble_eq_true rfl⟩ rfl rfl (c_bad (dd := d) (hd := by omega) (hW := hW504)  (fk := fk2_503) (e_fk := show G499 16 = fk2_503 from (e508))    ) (fun o V' hq => ?_)
                        obtain ⟨r522, rfl, rfl, b523, q524⟩ := hq
                        refine .inr ⟨_, rfl, ?_⟩
                        rcases q524 with ⟨rfl, a525⟩ | ⟨rfl, a526⟩
                        · have _q : True := trivial
                          refine jx_if_eq (pc' := 116) (tg := 117) rfl rfl rfl (by decide) (by decide) (fun h527 => ?_) (fun h527 => ?_)
                          · have _q := h527
                            exact absurd h527 (by omega)
                          · have _q := h527
                            refine jx_rt (v := none) rfl rfl rfl rfl rfl rfl ?_
                            exact ⟨_, _, at2_501, fk2_503, sy, na, rfl, rfl, hW504, hF512, hS513, (e506), (e508), ((hF505.1 19 rfl).trans ((hF475.1 19 rfl).trans ((hF258.1 19 rfl).trans ((hF242.1 19 rfl).trans (e_sy))))), ((hF505.1 28 rfl).trans ((hF475.1 28 rfl).trans ((hF258.1 28 rfl).trans ((hF242.1 28 rfl).trans (e_na))))), by omega, by omega, by omega, by omega, by first | exact Or.inl (by omega)⟩
                        · have _q : True := trivial
                          exfalso
                          omega
                      · have _q : True := trivial
                        exfalso
                        omega
                    · have _q : True := trivial
                      refine jx_vr (pc' := 96) (as := [.int (i32 (0))]) (st := []) rfl rfl rfl rfl ⟨rfl, rfl, Nat.le_of_ble_eq_true rfl⟩ rfl rfl (c_need (dd := d) (hd := by omega) (hW := hW474) (g := 0) (ln := ln) (e_ln := show G469 9 = ln from ((hF475.1 9 rfl).trans ((hF258.1 9 rfl).trans ((hF242.1 9 rfl).trans (e_ln))))) (le := le) (e_le := show A470 4 (ln).toNat = le from (congrFun ((hF475.2 4 rfl).trans ((hF258.2 4 rfl).trans (hF242.2 4 rfl))) _).trans (e_le)) (at0 := at2_471) (e_at0 := show G469 10 = at2_471 from (e476)) (fk := fk2_473) (e_fk := show G469 16 = fk2_473 from (e478)) (tk0 := tk2_472) (e_tk0 := show G469 11 = tk2_472 from (e477))  (h_g := ⟨(by decide), (by decide)⟩)  (p_0 := by omega)) (fun o V' hq => ?_)
                      obtain ⟨G528, A529, at2_530, tk2_531, fk2_532, rfl, rfl, hW533, hF534, e535, e536, e537, p538, p539, q540⟩ := hq
                      have hF541 := Fr_tr hF482 hF534 (Fr_sub (by decide)) (Fr_sub (by decide))
                      have hS542 := Fx_f hS483 hF534 (by decide)
                      have bat2_530 : (0 : Int) ≤ at2_530 ∧ at2_530 ≤ 3002 := e535 ▸ hW533.1 10
                      have ztk2_531 := tz_b tk2_531
                      have btk2_531 : (0 : Int) ≤ tk2_531 ∧ tk2_531 ≤ 5 := e536 ▸ hW533.1 11
                      have bfk2_532 : (0 : Int) ≤ fk2_532 ∧ fk2_532 ≤ 6 := e537 ▸ hW533.1 16
                      refine .inl ⟨rfl, ?_⟩
                      rcases q540 with ⟨a543, a544, a545, a546⟩ | ⟨a547, a548, a549, a550⟩
                      · have _q : True := trivial
                        refine jx_go (tg := 109) rfl rfl ?_
                        refine jx_ld (pc' := 110) (l' := L461) (st' := [.ref 66]) rfl (jl_aloadn gL461_0) ?_
                        refine jx_vr (pc' := 113) (as := []) (st := []) rfl rfl rfl rfl ⟨rfl, rfl, Nat.le_of_ble_eq_true rfl⟩ rfl rfl (c_bad (dd := d) (hd := by omega) (hW := hW533)  (fk := fk2_532) (e_fk := show G528 16 = fk2_532 from (e537))    ) (fun o V' hq => ?_)
                        obtain ⟨r551, rfl, rfl, b552, q553⟩ := hq
                        refine .inr ⟨_, rfl, ?_⟩
                        rcases q553 with ⟨rfl, a554⟩ | ⟨rfl, a555⟩
                        · have _q : True := trivial
                          refine jx_if_eq (pc' := 116) (tg := 117) rfl rfl rfl (by decide) (by decide) (fun h556 => ?_) (fun h556 => ?_)
                          · have _q := h556
                            exact absurd h556 (by omega)
                          · have _q := h556
                            refine jx_rt (v := none) rfl rfl rfl rfl rfl rfl ?_
                            exact ⟨_, _, at2_530, fk2_532, sy, na, rfl, rfl, hW533, hF541, hS542, (e535), (e537), ((hF534.1 19 rfl).trans ((hF475.1 19 rfl).trans ((hF258.1 19 rfl).trans ((hF242.1 19 rfl).trans (e_sy))))), ((hF534.1 28 rfl).trans ((hF475.1 28 rfl).trans ((hF258.1 28 rfl).trans ((hF242.1 28 rfl).trans (e_na))))), by omega, by omega, by omega, by omega, by first | exact Or.inl (by omega)⟩
                        · have _q : True := trivial
                          exfalso
                          omega
                      · have _q : True := trivial
                        exfalso
                        omega
                  · have _q : True := trivial
                    refine jx_ld (pc' := 87) (l' := L461) (st' := [.ref 66]) rfl (jl_aloadn gL461_0) ?_
                    refine jx_ld (pc' := 88) (l' := L461) (st' := [.ref 66, .ref 66]) rfl (jl_aloadn gL461_0) ?_
                    refine jx_ar (pc' := 90) (st' := [.int (i32 (9)), .ref 66, .ref 66]) rfl rfl rfl rfl ?_
                    have b557 : (-2147483648 : Int) ≤ G469 13 ∧ G469 13 ≤ 2147483647 := hW474.1 13
                    refine jx_vr (pc' := 93) (as := [.int (i32 (9))]) (st := [.ref 66]) rfl rfl rfl rfl ⟨rfl, rfl, Nat.le_of_ble_eq_true rfl⟩ rfl rfl (c_isKey (dd := d) (hd := by omega) (hW := hW474) (k := 9) (tk := tk2_472) (e_tk := show G469 11 = tk2_472 from (e477)) (tn := G469 13) (e_tn := show G469 13 = G469 13 from rfl)  (h_k := ⟨(by decide), (by decide)⟩)  ) (fun o V' hq => ?_)
                    obtain ⟨r558, rfl, rfl, b559, q560⟩ := hq
                    refine .inr ⟨_, rfl, ?_⟩
                    rcases q560 with ⟨rfl, a561, a562, a563⟩ | rfl
                    · have _q : True := trivial
                      refine jx_vr (pc' := 96) (as := [.int (i32 (1))]) (st := []) rfl rfl rfl rfl ⟨rfl, rfl, Nat.le_of_ble_eq_true rfl⟩ rfl rfl (c_need (dd := d) (hd := by omega) (hW := hW474) (g := 1) (ln := ln) (e_ln := show G469 9 = ln from ((hF475.1 9 rfl).trans ((hF258.1 9 rfl).trans ((hF242.1 9 rfl).trans (e_ln))))) (le := le) (e_le := show A470 4 (ln).toNat = le from (congrFun ((hF475.2 4 rfl).trans ((hF258.2 4 rfl).trans (hF242.2 4 rfl))) _).trans (e_le)) (at0 := at2_471) (e_at0 := show G469 10 = at2_471 from (e476)) (fk := fk2_473) (e_fk := show G469 16 = fk2_473 from (e478)) (tk0 := tk2_472) (e_tk0 := show G469 11 = tk2_472 from (e477))  (h_g := ⟨(by decide), (by decide)⟩)  (p_0 := by omega)) (fun o V' hq => ?_)
                      obtain ⟨G564, A565, at2_566, tk2_567, fk2_568, rfl, rfl, hW569, hF570, e571, e572, e573, p574, p575, q576⟩ := hq
                      have hF577 := Fr_tr hF482 hF570 (Fr_sub (by decide)) (Fr_sub (by decide))
                      have hS578 := Fx_f hS483 hF570 (by decide)
                      have bat2_566 : (0 : Int) ≤ at2_566 ∧ at2_566 ≤ 3002 := e571 ▸ hW569.1 10
                      have ztk2_567 := tz_b tk2_567
                      have btk2_567 : (0 : Int) ≤ tk2_567 ∧ tk2_567 ≤ 5 := e572 ▸ hW569.1 11
                      have bfk2_568 : (0 : Int) ≤ fk2_568 ∧ fk2_568 ≤ 6 := e573 ▸ hW569.1 16
                      refine .inl ⟨rfl, ?_⟩
                      rcases q576 with ⟨a579, a580, a581, a582⟩ | ⟨a583, a584, a585, a586⟩
                      · have _q : True := trivial
                        refine jx_go (tg := 109) rfl rfl ?_
                        refine jx_ld (pc' := 110) (l' := L461) (st' := [.ref 66]) rfl (jl_aloadn gL461_0) ?_
                        refine jx_vr (pc' := 113) (as := []) (st := []) rfl rfl rfl rfl ⟨rfl, rfl, Nat.le_of_ble_eq_true rfl⟩ rfl rfl (c_bad (dd := d) (hd := by omega) (hW := hW569)  (fk := fk2_568) (e_fk := show G564 16 = fk2_568 from (e573))    ) (fun o V' hq => ?_)
                        obtain ⟨r587, rfl, rfl, b588, q589⟩ := hq
                        refine .inr ⟨_, rfl, ?_⟩
                        rcases q589 with ⟨rfl, a590⟩ | ⟨rfl, a591⟩
                        · have _q : True := trivial
                          refine jx_if_eq (pc' := 116) (tg := 117) rfl rfl rfl (by decide) (by decide) (fun h592 => ?_) (fun h592 => ?_)
                          · have _q := h592
                            exact absurd h592 (by omega)
                          · have _q := h592
                            refine jx_rt (v := none) rfl rfl rfl rfl rfl rfl ?_
                            exact ⟨_, _, at2_566, fk2_568, sy, na, rfl, rfl, hW569, hF577, hS578, (e571), (e573), ((hF570.1 19 rfl).trans ((hF475.1 19 rfl).trans ((hF258.1 19 rfl).trans ((hF242.1 19 rfl).trans (e_sy))))), ((hF570.1 28 rfl).trans ((hF475.1 28 rfl).trans ((hF258.1 28 rfl).trans ((hF242.1 28 rfl).trans (e_na))))), by omega, by omega, by omega, by omega, by first | exact Or.inl (by omega)⟩
                        · have _q : True := trivial
                          exfalso
                          omega
                      · have _q : True := trivial
                        refine jx_go (tg := 109) rfl rfl ?_
                        exact c_readParameter_at_109 (X := X) (d := d) (c0 := c0) (c1 := c1) (G := G) (A := A) (T := T) (fr := fr) (ln := ln) (le := le) (at0 := at0) (fk := fk) (tk0 := tk0) (sy := sy) (na := na) (hd := hd) (hW := hW) (e_ln := e_ln) (e_le := e_le) (e_at0 := e_at0) (e_fk := e_fk) (e_tk0 := e_tk0) (e_sy := e_sy) (e_na := e_na) (h_fr := h_fr) (p_0 := p_0) (p_1 := p_1) (p_2 := p_2) (p_3 := p_3) L461 G564 A565 (7) (r253) (at2_566) (tk2_567) (fk2_568) gL461_0 gL461_1 gL461_2 gL461_3 hW569 hF577 hS578 ((e571)) ((e572)) ((e573)) (((hF570.1 9 rfl).trans ((hF475.1 9 rfl).trans ((hF258.1 9 rfl).trans ((hF242.1 9 rfl).trans (e_ln)))))) (((hF570.1 19 rfl).trans ((hF475.1 19 rfl).trans ((hF258.1 19 rfl).trans ((hF242.1 19 rfl).trans (e_sy)))))) (((hF570.1 28 rfl).trans ((hF475.1 28 rfl).trans ((hF258.1 28 rfl).trans ((hF242.1 28 rfl).trans (e_na)))))) (by omega) (by omega) (by omega) (by omega) (by omega) (by omega)
                    · have _q : True := trivial
                      refine jx_vr (pc' := 96) (as := [.int (i32 (0))]) (st := []) rfl rfl rfl rfl ⟨rfl, rfl, Nat.le_of_ble_eq_true rfl⟩ rfl rfl (c_need (dd := d) (hd := by omega) (hW := hW474) (g := 0) (ln := ln) (e_ln := show G469 9 = ln from ((hF475.1 9 rfl).trans ((hF258.1 9 rfl).trans ((hF242.1 9 rfl).trans (e_ln))))) (le := le) (e_le := show A470 4 (ln).toNat = le from (congrFun ((hF475.2 4 rfl).trans ((hF258.2 4 rfl).trans (hF242.2 4 rfl))) _).trans (e_le)) (at0 := at2_471) (e_at0 := show G469 10 = at2_471 from (e476)) (fk := fk2_473) (e_fk := show G469 16 = fk2_473 from (e478)) (tk0 := tk2_472) (e_tk0 := show G469 11 = tk2_472 from (e477))  (h_g := ⟨(by decide), (by decide)⟩)  (p_0 := by omega)) (fun o V' hq => ?_)
                      obtain ⟨G593, A594, at2_595, tk2_596, fk2_597, rfl, rfl, hW598, hF599, e600, e601, e602, p603, p604, q605⟩ := hq
                      have hF606 := Fr_tr hF482 hF599 (Fr_sub (by decide)) (Fr_sub (by decide))
                      have hS607 := Fx_f hS483 hF599 (by decide)
                      have bat2_595 : (0 : Int) ≤ at2_595 ∧ at2_595 ≤ 3002 := e600 ▸ hW598.1 10
                      have ztk2_596 := tz_b tk2_596
                      have btk2_596 : (0 : Int) ≤ tk2_596 ∧ tk2_596 ≤ 5 := e601 ▸ hW598.1 11
                      have bfk2_597 : (0 : Int) ≤ fk2_597 ∧ fk2_597 ≤ 6 := e602 ▸ hW598.1 16
                      refine .inl ⟨rfl, ?_⟩
                      rcases q605 with ⟨a608, a609, a610, a611⟩ | ⟨a612, a613, a614, a615⟩
                      · have _q : True := trivial
                        refine jx_go (tg := 109) rfl rfl ?_
                        refine jx_ld (pc' := 110) (l' := L461) (st' := [.ref 66]) rfl (jl_aloadn gL461_0) ?_
                        refine jx_vr (pc' := 113) (as := []) (st := []) rfl rfl rfl rfl ⟨rfl, rfl, Nat.le_of_ble_eq_true rfl⟩ rfl rfl (c_bad (dd := d) (hd := by omega) (hW := hW598)  (fk := fk2_597) (e_fk := show G593 16 = fk2_597 from (e602))    ) (fun o V' hq => ?_)
                        obtain ⟨r616, rfl, rfl, b617, q618⟩ := hq
                        refine .inr ⟨_, rfl, ?_⟩
                        rcases q618 with ⟨rfl, a619⟩ | ⟨rfl, a620⟩
                        · have _q : True := trivial
                          refine jx_if_eq (pc' := 116) (tg := 117) rfl rfl rfl (by decide) (by decide) (fun h621 => ?_) (fun h621 => ?_)
                          · have _q := h621
                            exact absurd h621 (by omega)
                          · have _q := h621
                            refine jx_rt (v := none) rfl rfl rfl rfl rfl rfl ?_
                            exact ⟨_, _, at2_595, fk2_597, sy, na, rfl, rfl, hW598, hF606, hS607, (e600), (e602), ((hF599.1 19 rfl).trans ((hF475.1 19 rfl).trans ((hF258.1 19 rfl).trans ((hF242.1 19 rfl).trans (e_sy))))), ((hF599.1 28 rfl).trans ((hF475.1 28 rfl).trans ((hF258.1 28 rfl).trans ((hF242.1 28 rfl).trans (e_na))))), by omega, by omega, by omega, by omega, by first | exact Or.inl (by omega)⟩
                        · have _q : True := trivial
                          exfalso
                          omega
                      · have _q : True := trivial
                        exfalso
                        omega
                · have _q : True := trivial
                  refine jx_vr (pc' := 86) (as := [.int (i32 (0))]) (st := []) rfl rfl rfl rfl ⟨rfl, rfl, Nat.le_of_ble_eq_true rfl⟩ rfl rfl (c_need (dd := d) (hd := by omega) (hW := hW257) (g := 0) (ln := ln) (e_ln := show G251 9 = ln from ((hF258.1 9 rfl).trans ((hF242.1 9 rfl).trans (e_ln)))) (le := le) (e_le := show A252 4 (ln).toNat = le from (congrFun ((hF258.2 4 rfl).trans (hF242.2 4 rfl)) _).trans (e_le)) (at0 := at2_254) (e_at0 := show G251 10 = at2_254 from (e260)) (fk := fk2_256) (e_fk := show G251 16 = fk2_256 from (e262)) (tk0 := tk2_255) (e_tk0 := show G251 11 = tk2_255 from (e261))  (h_g := ⟨(by decide), (by decide)⟩)  (p_0 := by omega)) (fun o V' hq => ?_)
                  obtain ⟨G622, A623, at2_624, tk2_625, fk2_626, rfl, rfl, hW627, hF628, e629, e630, e631, p632, p633, q634⟩ := hq
                  have hF635 := Fr_tr hF266 hF628 (Fr_sub (by decide)) (Fr_sub (by decide))
                  have hS636 := Fx_f hS267 hF628 (by decide)
                  have bat2_624 : (0 : Int) ≤ at2_624 ∧ at2_624 ≤ 3002 := e629 ▸ hW627.1 10
                  have ztk2_625 := tz_b tk2_625
                  have btk2_625 : (0 : Int) ≤ tk2_625 ∧ tk2_625 ≤ 5 := e630 ▸ hW627.1 11
                  have bfk2_626 : (0 : Int) ≤ fk2_626 ∧ fk2_626 ≤ 6 := e631 ▸ hW627.1 16
                  refine .inl ⟨rfl, ?_⟩
                  rcases q634 with ⟨a637, a638, a639, a640⟩ | ⟨a641, a642, a643, a644⟩
                  · have _q : True := trivial
                    refine jx_ld (pc' := 87) (l' := L461) (st' := [.ref 66]) rfl (jl_aloadn gL461_0) ?_
                    refine jx_ld (pc' := 88) (l' := L461) (st' := [.ref 66, .ref 66]) rfl (jl_aloadn gL461_0) ?_
                    refine jx_ar (pc' := 90) (st' := [.int (i32 (9)), .ref 66, .ref 66]) rfl rfl rfl rfl ?_
                    have b645 : (-2147483648 : Int) ≤ G622 13 ∧ G622 13 ≤ 2147483647 := hW627.1 13
                    refine jx_vr (pc' := 93) (as := [.int (i32 (9))]) (st := [.ref 66]) rfl rfl rfl rfl ⟨rfl, rfl, Nat.le_of_ble_eq_true rfl⟩ rfl rfl (c_isKey (dd := d) (hd := by omega) (hW := hW627) (k := 9) (tk := tk2_625) (e_tk := show G622 11 = tk2_625 from (e630)) (tn := G622 13) (e_tn := show G622 13 = G622 13 from rfl)  (h_k := ⟨(by decide), (by decide)⟩)  ) (fun o V' hq => ?_)
                    obtain ⟨r646, rfl, rfl, b647, q648⟩ := hq
                    refine .inr ⟨_, rfl, ?_⟩
                    rcases q648 with ⟨rfl, a649, a650, a651⟩ | rfl
                    · have _q : True := trivial
                      refine jx_vr (pc' := 96) (as := [.int (i32 (1))]) (st := []) rfl rfl rfl rfl ⟨rfl, rfl, Nat.le_of_ble_eq_true rfl⟩ rfl rfl (c_need (dd := d) (hd := by omega) (hW := hW627) (g := 1) (ln := ln) (e_ln := show G622 9 = ln from ((hF628.1 9 rfl).trans ((hF258.1 9 rfl).trans ((hF242.1 9 rfl).trans (e_ln))))) (le := le) (e_le := show A623 4 (ln).toNat = le from (congrFun ((hF628.2 4 rfl).trans ((hF258.2 4 rfl).trans (hF242.2 4 rfl))) _).trans (e_le)) (at0 := at2_624) (e_at0 := show G622 10 = at2_624 from (e629)) (fk := fk2_626) (e_fk := show G622 16 = fk2_626 from (e631)) (tk0 := tk2_625) (e_tk0 := show G622 11 = tk2_625 from (e630))  (h_g := ⟨(by decide), (by decide)⟩)  (p_0 := by omega)) (fun o V' hq => ?_)
                      obtain ⟨G652, A653, at2_654, tk2_655, fk2_656, rfl, rfl, hW657, hF658, e659, e660, e661, p662, p663, q664⟩ := hq
                      have hF665 := Fr_tr hF635 hF658 (Fr_sub (by decide)) (Fr_sub (by decide))
                      have hS666 := Fx_f hS636 hF658 (by decide)
                      have bat2_654 : (0 : Int) ≤ at2_654 ∧ at2_654 ≤ 3002 := e659 ▸ hW657.1 10
                      have ztk2_655 := tz_b tk2_655
                      have btk2_655 : (0 : Int) ≤ tk2_655 ∧ tk2_655 ≤ 5 := e660 ▸ hW657.1 11
                      have bfk2_656 : (0 : Int) ≤ fk2_656 ∧ fk2_656 ≤ 6 := e661 ▸ hW657.1 16
                      refine .inl ⟨rfl, ?_⟩
                      rcases q664 with ⟨a667, a668, a669, a670⟩ | ⟨a671, a672, a673, a674⟩
                      · have _q : True := trivial
                        refine jx_go (tg := 109) rfl rfl ?_
                        refine jx_ld (pc' := 110) (l' := L461) (st' := [.ref 66]) rfl (jl_aloadn gL461_0) ?_
                        refine jx_vr (pc' := 113) (as := []) (st := []) rfl rfl rfl rfl ⟨rfl, rfl, Nat.le_of_ble_eq_true rfl⟩ rfl rfl (c_bad (dd := d) (hd := by omega) (hW := hW657)  (fk := fk2_656) (e_fk := show G652 16 = fk2_656 from (e661))    ) (fun o V' hq => ?_)
                        obtain ⟨r675, rfl, rfl, b676, q677⟩ := hq
                        refine .inr ⟨_, rfl, ?_⟩
                        rcases q677 with ⟨rfl, a678⟩ | ⟨rfl, a679⟩
                        · have _q : True := trivial
                          refine jx_if_eq (pc' := 116) (tg := 117) rfl rfl rfl (by decide) (by decide) (fun h680 => ?_) (fun h680 => ?_)
                          · have _q := h680
                            exact absurd h680 (by omega)
                          · have _q := h680
                            refine jx_rt (v := none) rfl rfl rfl rfl rfl rfl ?_
                            exact ⟨_, _, at2_654, fk2_656, sy, na, rfl, rfl, hW657, hF665, hS666, (e659), (e661), ((hF658.1 19 rfl).trans ((hF628.1 19 rfl).trans ((hF258.1 19 rfl).trans ((hF242.1 19 rfl).trans (e_sy))))), ((hF658.1 28 rfl).trans ((hF628.1 28 rfl).trans ((hF258.1 28 rfl).trans ((hF242.1 28 rfl).trans (e_na))))), by omega, by omega, by omega, by omega, by first | exact Or.inl (by omega)⟩
                        · have _q : True := trivial
                          exfalso
                          omega
                      · have _q : True := trivial
                        exfalso
                        omega
                    · have _q : True := trivial
                      refine jx_vr (pc' := 96) (as := [.int (i32 (0))]) (st := []) rfl rfl rfl rfl ⟨rfl, rfl, Nat.le_of_ble_eq_true rfl⟩ rfl rfl (c_need (dd := d) (hd := by omega) (hW := hW627) (g := 0) (ln := ln) (e_ln := show G622 9 = ln from ((hF628.1 9 rfl).trans ((hF258.1 9 rfl).trans ((hF242.1 9 rfl).trans (e_ln))))) (le := le) (e_le := show A623 4 (ln).toNat = le from (congrFun ((hF628.2 4 rfl).trans ((hF258.2 4 rfl).trans (hF242.2 4 rfl))) _).trans (e_le)) (at0 := at2_624) (e_at0 := show G622 10 = at2_624 from (e629)) (fk := fk2_626) (e_fk := show G622 16 = fk2_626 from (e631)) (tk0 := tk2_625) (e_tk0 := show G622 11 = tk2_625 from (e630))  (h_g := ⟨(by decide), (by decide)⟩)  (p_0 := by omega)) (fun o V' hq => ?_)
                      obtain ⟨G681, A682, at2_683, tk2_684, fk2_685, rfl, rfl, hW686, hF687, e688, e689, e690, p691, p692, q693⟩ := hq
                      have hF694 := Fr_tr hF635 hF687 (Fr_sub (by decide)) (Fr_sub (by decide))
                      have hS695 := Fx_f hS636 hF687 (by decide)
                      have bat2_683 : (0 : Int) ≤ at2_683 ∧ at2_683 ≤ 3002 := e688 ▸ hW686.1 10
                      have ztk2_684 := tz_b tk2_684
                      have btk2_684 : (0 : Int) ≤ tk2_684 ∧ tk2_684 ≤ 5 := e689 ▸ hW686.1 11
                      have bfk2_685 : (0 : Int) ≤ fk2_685 ∧ fk2_685 ≤ 6 := e690 ▸ hW686.1 16
                      refine .inl ⟨rfl, ?_⟩
                      rcases q693 with ⟨a696, a697, a698, a699⟩ | ⟨a700, a701, a702, a703⟩
                      · have _q : True := trivial
                        refine jx_go (tg := 109) rfl rfl ?_
                        refine jx_ld (pc' := 110) (l' := L461) (st' := [.ref 66]) rfl (jl_aloadn gL461_0) ?_
                        refine jx_vr (pc' := 113) (as := []) (st := []) rfl rfl rfl rfl ⟨rfl, rfl, Nat.le_of_ble_eq_true rfl⟩ rfl rfl (c_bad (dd := d) (hd := by omega) (hW := hW686)  (fk := fk2_685) (e_fk := show G681 16 = fk2_685 from (e690))    ) (fun o V' hq => ?_)
                        obtain ⟨r704, rfl, rfl, b705, q706⟩ := hq
                        refine .inr ⟨_, rfl, ?_⟩
                        rcases q706 with ⟨rfl, a707⟩ | ⟨rfl, a708⟩
                        · have _q : True := trivial
                          refine jx_if_eq (pc' := 116) (tg := 117) rfl rfl rfl (by decide) (by decide) (fun h709 => ?_) (fun h709 => ?_)
                          · have _q := h709
                            exact absurd h709 (by omega)
                          · have _q := h709
                            refine jx_rt (v := none) rfl rfl rfl rfl rfl rfl ?_
                            exact ⟨_, _, at2_683, fk2_685, sy, na, rfl, rfl, hW686, hF694, hS695, (e688), (e690), ((hF687.1 19 rfl).trans ((hF628.1 19 rfl).trans ((hF258.1 19 rfl).trans ((hF242.1 19 rfl).trans (e_sy))))), ((hF687.1 28 rfl).trans ((hF628.1 28 rfl).trans ((hF258.1 28 rfl).trans ((hF242.1 28 rfl).trans (e_na))))), by omega, by omega, by omega, by omega, by first | exact Or.inl (by omega)⟩
                        · have _q : True := trivial
                          exfalso
                          omega
                      · have _q : True := trivial
                        exfalso
                        omega
                  · have _q : True := trivial
                    exfalso
                    omega
          · have _q : True := trivial
            refine jx_if_eq (pc' := 61) (tg := 99) rfl rfl rfl (by decide) (by decide) (fun h710 => ?_) (fun h710 => ?_)
            · have _q := h710
              refine jx_ld (pc' := 100) (l' := L116) (st' := [.ref 66]) rfl (jl_aloadn gL116_0) ?_
              refine jx_ld (pc' := 101) (l' := L116) (st' := [.ref 66, .ref 66]) rfl (jl_aloadn gL116_0) ?_
              refine jx_ar (pc' := 103) (st' := [.int (i32 (9)), .ref 66, .ref 66]) rfl rfl rfl rfl ?_
              refine jx_vr (pc' := 106) (as := [.int (i32 (9))]) (st := [.ref 66]) rfl rfl rfl rfl ⟨rfl, rfl, Nat.le_of_ble_eq_true rfl⟩ rfl rfl (c_isKey (dd := d) (hd := by omega) (hW := hW) (k := 9) (tk := tk0) (e_tk := show G 11 = tk0 from (e_tk0)) (tn := G 13) (e_tn := show G 13 = G 13 from rfl)  (h_k := ⟨(by decide), (by decide)⟩)  ) (fun o V' hq => ?_)
              obtain ⟨r711, rfl, rfl, b712, q713⟩ := hq
              refine .inr ⟨_, rfl, ?_⟩
              rcases q713 with ⟨rfl, a714, a715, a716⟩ | rfl
              · have _q : True := trivial
                refine jx_vr (pc' := 109) (as := [.int (i32 (1))]) (st := []) rfl rfl rfl rfl ⟨rfl, rfl, Nat.le_of_ble_eq_true rfl⟩ rfl rfl (c_need (dd := d) (hd := by omega) (hW := hW) (g := 1) (ln := ln) (e_ln := show G 9 = ln from (e_ln)) (le := le) (e_le := show A 4 (ln).toNat = le from (e_le)) (at0 := at0) (e_at0 := show G 10 = at0 from (e_at0)) (fk := fk) (e_fk := show G 16 = fk from (e_fk)) (tk0 := tk0) (e_tk0 := show G 11 = tk0 from (e_tk0))  (h_g := ⟨(by decide), (by decide)⟩)  (p_0 := by omega)) (fun o V' hq => ?_)
                obtain ⟨G717, A718, at2_719, tk2_720, fk2_721, rfl, rfl, hW722, hF723, e724, e725, e726, p727, p728, q729⟩ := hq
                have hF730 := Fr_tr hF0 hF723 (Fr_sub (by decide)) (Fr_sub (by decide))
                have hS731 := Fx_f hS0 hF723 (by decide)
                have bat2_719 : (0 : Int) ≤ at2_719 ∧ at2_719 ≤ 3002 := e724 ▸ hW722.1 10
                have ztk2_720 := tz_b tk2_720
                have btk2_720 : (0 : Int) ≤ tk2_720 ∧ tk2_720 ≤ 5 := e725 ▸ hW722.1 11
                have bfk2_721 : (0 : Int) ≤ fk2_721 ∧ fk2_721 ≤ 6 := e726 ▸ hW722.1 16
                refine .inl ⟨rfl, ?_⟩
                rcases q729 with ⟨a732, a733, a734, a735⟩ | ⟨a736, a737, a738, a739⟩
                · have _q : True := trivial
                  refine jx_ld (pc' := 110) (l' := L116) (st' := [.ref 66]) rfl (jl_aloadn gL116_0) ?_
                  refine jx_vr (pc' := 113) (as := []) (st := []) rfl rfl rfl rfl ⟨rfl, rfl, Nat.le_of_ble_eq_true rfl⟩ rfl rfl (c_bad (dd := d) (hd := by omega) (hW := hW722)  (fk := fk2_721) (e_fk := show G717 16 = fk2_721 from (e726))    ) (fun o V' hq => ?_)
                  obtain ⟨r740, rfl, rfl, b741, q742⟩ := hq
                  refine .inr ⟨_, rfl, ?_⟩
                  rcases q742 with ⟨rfl, a743⟩ | ⟨rfl, a744⟩
                  · have _q : True := trivial
                    refine jx_if_eq (pc' := 116) (tg := 117) rfl rfl rfl (by decide) (by decide) (fun h745 => ?_) (fun h745 => ?_)
                    · have _q := h745
                      exact absurd h745 (by omega)
                    · have _q := h745
                      refine jx_rt (v := none) rfl rfl rfl rfl rfl rfl ?_
                      exact ⟨_, _, at2_719, fk2_721, sy, na, rfl, rfl, hW722, hF730, hS731, (e724), (e726), ((hF723.1 19 rfl).trans (e_sy)), ((hF723.1 28 rfl).trans (e_na)), by omega, by omega, by omega, by omega, by first | exact Or.inl (by omega)⟩
                  · have _q : True := trivial
                    exfalso
                    omega
                · have _q : True := trivial
                  exact c_readParameter_at_109 (X := X) (d := d) (c0 := c0) (c1 := c1) (G := G) (A := A) (T := T) (fr := fr) (ln := ln) (le := le) (at0 := at0) (fk := fk) (tk0 := tk0) (sy := sy) (na := na) (hd := hd) (hW := hW) (e_ln := e_ln) (e_le := e_le) (e_at0 := e_at0) (e_fk := e_fk) (e_tk0 := e_tk0) (e_sy := e_sy) (e_na := e_na) (h_fr := h_fr) (p_0 := p_0) (p_1 := p_1) (p_2 := p_2) (p_3 := p_3) L116 G717 A718 (6) (1) (at2_719) (tk2_720) (fk2_721) gL116_0 gL116_1 gL116_2 gL116_3 hW722 hF730 hS731 ((e724)) ((e725)) ((e726)) (((hF723.1 9 rfl).trans (e_ln))) (((hF723.1 19 rfl).trans (e_sy))) (((hF723.1 28 rfl).trans (e_na))) (by omega) (by omega) (by omega) (by omega) (by omega) (by omega)
              · have _q : True := trivial
                refine jx_vr (pc' := 109) (as := [.int (i32 (0))]) (st := []) rfl rfl rfl rfl ⟨rfl, rfl, Nat.le_of_ble_eq_true rfl⟩ rfl rfl (c_need (dd := d) (hd := by omega) (hW := hW) (g := 0) (ln := ln) (e_ln := show G 9 = ln from (e_ln)) (le := le) (e_le := show A 4 (ln).toNat = le from (e_le)) (at0 := at0) (e_at0 := show G 10 = at0 from (e_at0)) (fk := fk) (e_fk := show G 16 = fk from (e_fk)) (tk0 := tk0) (e_tk0 := show G 11 = tk0 from (e_tk0))  (h_g := ⟨(by decide), (by decide)⟩)  (p_0 := by omega)) (fun o V' hq => ?_)
                obtain ⟨G746, A747, at2_748, tk2_749, fk2_750, rfl, rfl, hW751, hF752, e753, e754, e755, p756, p757, q758⟩ := hq
                have hF759 := Fr_tr hF0 hF752 (Fr_sub (by decide)) (Fr_sub (by decide))
                have hS760 := Fx_f hS0 hF752 (by decide)
                have bat2_748 : (0 : Int) ≤ at2_748 ∧ at2_748 ≤ 3002 := e753 ▸ hW751.1 10
                have ztk2_749 := tz_b tk2_749
                have btk2_749 : (0 : Int) ≤ tk2_749 ∧ tk2_749 ≤ 5 := e754 ▸ hW751.1 11
                have bfk2_750 : (0 : Int) ≤ fk2_750 ∧ fk2_750 ≤ 6 := e755 ▸ hW751.1 16
                refine .inl ⟨rfl, ?_⟩
                rcases q758 with ⟨a761, a762, a763, a764⟩ | ⟨a765, a766, a767, a768⟩
                · have _q : True := trivial
                  refine jx_ld (pc' := 110) (l' := L116) (st' := [.ref 66]) rfl (jl_aloadn gL116_0) ?_
                  refine jx_vr (pc' := 113) (as := []) (st := []) rfl rfl rfl rfl ⟨rfl, rfl, Nat.le_of_ble_eq_true rfl⟩ rfl rfl (c_bad (dd := d) (hd := by omega) (hW := hW751)  (fk := fk2_750) (e_fk := show G746 16 = fk2_750 from (e755))    ) (fun o V' hq => ?_)
                  obtain ⟨r769, rfl, rfl, b770, q771⟩ := hq
                  refine .inr ⟨_, rfl, ?_⟩
                  rcases q771 with ⟨rfl, a772⟩ | ⟨rfl, a773⟩
                  · have _q : True := trivial
                    refine jx_if_eq (pc' := 116) (tg := 117) rfl rfl rfl (by decide) (by decide) (fun h774 => ?_) (fun h774 => ?_)
                    · have _q := h774
                      exact absurd h774 (by omega)
                    · have _q := h774
                      refine jx_rt (v := none) rfl rfl rfl rfl rfl rfl ?_
                      exact ⟨_, _, at2_748, fk2_750, sy, na, rfl, rfl, hW751, hF759, hS760, (e753), (e755), ((hF752.1 19 rfl).trans (e_sy)), ((hF752.1 28 rfl).trans (e_na)), by omega, by omega, by omega, by omega, by first | exact Or.inl (by omega)⟩
                  · have _q : True := trivial
                    exfalso
                    omega
                · have _q : True := trivial
                  exfalso
                  omega
            · have _q := h710
              exact absurd h710 (by omega)
        · have _q := h228
          exact absurd h228 (by omega)
    · have _q := h205
      exact absurd h205 (by omega)
set_option maxRecDepth 20000 in
set_option maxHeartbeats 4000000 in
theorem c_readProc_at_327p {X : jX} {d : Nat} {Vs : Nat → Prop} {sb pb : Int} (hvb : VB Vs sb) {c0 c1 : jC} {G : Nat → Int} {A : Nat → Nat → Int} {T : jH} {ln li at0 fk nd sy na vi le op0 tk0 pc0 : Int} (hd : 8 * 18 + 81 ≤ d + 1) (hW : Wk G A) (e_ln : G 9 = ln) (e_li : G 3 = li) (e_at0 : G 10 = at0) (e_fk : G 16 = fk) (e_nd : G 31 = nd) (e_sy : G 19 = sy) (e_na : G 28 = na) (e_vi : G 29 = vi) (e_le : A 4 (ln).toNat = le) (e_op0 : G 15 = op0) (e_tk0 : G 11 = tk0) (e_pc0 : G 46 = pc0) (i_LT : LT G A) (i_SV : SV Vs sb G A) (i_PQ : PQ Vs sb pb G A) (p_0 : fk = 0) (p_1 : ln < li) (p_2 : at0 ≤ le) (p_3 : nd ≤ 2 * at0 - tz tk0 + 30) (p_4 : sy ≤ na + 2) (p_5 : vi ≤ sy) (p_6 : sb ≤ sy) (p_7 : pb = pc0) (p_8 : wQ A (pc0).toNat (nd) (sy)) (p_9 : VT (Vs) A (sy)) : ∀ (L : jL) (Gx : Nat → Int) (Ax : Nat → Nat → Int) (p ln1 fk1 sy1 na1 : Int), jGet L 0 = some (.ref 66) → jGet L 1 = some (.int (i32 p)) → Wk Gx Ax → Fr [9, 10, 11, 12, 13, 14, 15, 16, 17, 18, 19, 28, 29, 31, 46] [6, 7, 8, 9, 10, 11, 12, 14, 15, 16, 17, 18, 19, 20, 21, 22, 23, 24, 28, 29, 30, 31] G A Gx Ax → Pf nd A Ax → Fx sr (sy) A Ax → Fx [14] (vi) A Ax → Fx [29, 30, 31] (pc0) A Ax → Gx 9 = ln1 → Gx 16 = fk1 → Gx 19 = sy1 → Gx 28 = na1 → Gx 29 = vi → Gx 46 = pc0 → ((-2147483648 : Int) ≤ p ∧ p ≤ 2147483647) → (1 ≤ fk1) → (ln ≤ ln1) → (ln1 ≤ li) → (sy + 1 ≤ sy1) → (sy1 ≤ na1 + 2) → (p = sy) → (pc0 ≤ 23) → wj X d jm308 (327, L, [], rV c0 c1 Gx Ax T) (fun o V' => ∃ (G' : Nat → Int) (A' : Nat → Nat → Int) (ln2 : Int) (at2 : Int) (fk2 : Int) (nd2 : Int) (sy2 : Int) (na2 : Int) (vi2 : Int) (lf2 : Int) (pc2 : Int), V' = rV c0 c1 G' A' T ∧ o = .inl none ∧ Wk G' A' ∧ Fr [9, 10, 11, 12, 13, 14, 15, 16, 17, 18, 19, 28, 29, 31, 46] [6, 7, 8, 9, 10, 11, 12, 14, 15, 16, 17, 18, 19, 20, 21, 22, 23, 24, 28, 29, 30, 31] G A G' A' ∧ Pf nd A A' ∧ Fx sr (sy) A A' ∧ Fx [14] (vi) A A' ∧ Fx [29, 30, 31] (pc0) A A' ∧ G' 9 = ln2 ∧ G' 10 = at2 ∧ G' 16 = fk2 ∧ G' 31 = nd2 ∧ G' 19 = sy2 ∧ G' 28 = na2 ∧ G' 29 = vi2 ∧ A' 3 (ln2).toNat = lf2 ∧ G' 46 = pc2 ∧ (sy2 ≤ na2 + 2) ∧ (vi2 ≤ sy2) ∧ (ln ≤ ln2) ∧ (ln2 ≤ li) ∧ (((1 ≤ fk2)) ∨ ((fk2 = 0) ∧ (ln < ln2) ∧ (at0 ≤ at2) ∧ (pc2 = pc0 + 1) ∧ (nd2 - nd ≤ 2 * at2 - (2 * at0 - tz tk0)) ∧ (at2 < lf2 ∨ li ≤ ln2) ∧ (vi2 = vi + 1) ∧ (sy < sy2) ∧ (wQ A' (pc2).toNat (nd2) (sy2)) ∧ (SW (Vu Vs sy) (sy2) (vi2) A') ∧ (PQ (Vu Vs sy) (sy2) (pc2) (fun _ => 0) A') ∧ (VT (Vu Vs sy) A' (sy2))))) := by
  have hF0 : Fr [9, 10, 11, 12, 13, 14, 15, 16, 17, 18, 19, 28, 29, 31, 46] [6, 7, 8, 9, 10, 11, 12, 14, 15, 16, 17, 18, 19, 20, 21, 22, 23, 24, 28, 29, 30, 31] G A G A := Fr_rf
  have hP0 : Pf nd A A := Pf_rf
  have hS0 : Fx sr (sy) A A := Fx_rf
  have hV0 : Fx [14] (vi) A A := Fx_rf
  have hK0 : Fx [29, 30, 31] (pc0) A A := Fx_rf
  have b_ln : (0 : Int) ≤ ln ∧ ln ≤ 3000 := e_ln ▸ hW.1 9
  have b_li : (0 : Int) ≤ li ∧ li ≤ 3000 := e_li ▸ hW.1 3
  have b_at0 : (0 : Int) ≤ at0 ∧ at0 ≤ 3002 := e_at0 ▸ hW.1 10
  have b_fk : (0 : Int) ≤ fk ∧ fk ≤ 6 := e_fk ▸ hW.1 16
  have b_nd : (0 : Int) ≤ nd ∧ nd ≤ 6999 := e_nd ▸ hW.1 31
  have b_sy : (0 : Int) ≤ sy ∧ sy ≤ 202 := e_sy ▸ hW.1 19
  have b_na : (0 : Int) ≤ na ∧ na ≤ 200 := e_na ▸ hW.1 28
  have b_vi : (0 : Int) ≤ vi ∧ vi ≤ 202 := e_vi ▸ hW.1 29
  have b_le : (0 : Int) ≤ le ∧ le ≤ 3000 := e_le ▸ hW.2 4 _
  have b_op0 : (-2147483648 : Int) ≤ op0 ∧ op0 ≤ 2147483647 := e_op0 ▸ hW.1 15
  have z_tk0 := tz_f tk0
  have b_tk0 : (0 : Int) ≤ tk0 ∧ tk0 ≤ 5 := e_tk0 ▸ hW.1 11
  have b_pc0 : (0 : Int) ≤ pc0 ∧ pc0 ≤ 24 := e_pc0 ▸ hW.1 46
  intro L Gx Ax p ln1 fk1 sy1 na1 gL_0 gL_1 hWx hFx hPx hSx hVx hKx ex_ln1 ex_fk1 ex_sy1 ex_na1 fx_29 fx_46 rx_p iv_0 iv_1 iv_2 iv_3 iv_4 iv_5 iv_6
  have b_ln1 : (0 : Int) ≤ ln1 ∧ ln1 ≤ 3000 := ex_ln1 ▸ hWx.1 9
  have b_fk1 : (0 : Int) ≤ fk1 ∧ fk1 ≤ 6 := ex_fk1 ▸ hWx.1 16
  have b_sy1 : (0 : Int) ≤ sy1 ∧ sy1 ≤ 202 := ex_sy1 ▸ hWx.1 19
  have b_na1 : (0 : Int) ≤ na1 ∧ na1 ≤ 200 := ex_na1 ▸ hWx.1 28
  refine jx_ld (pc' := 328) (l' := L) (st' := [.ref 66]) rfl (jl_aloadn gL_0) ?_
  refine jx_ld (pc' := 329) (l' := L) (st' := [.int (i32 (p)), .ref 66]) rfl (jl_iloadn gL_1) ?_
  refine jx_vr (pc' := 332) (as := [.int (i32 (p))]) (st := []) rfl rfl rfl rfl ⟨rfl, rfl, Nat.le_of_ble_eq_true rfl⟩ rfl rfl (c_show (dd := d) (hd := by omega) (hW := hWx) (s := p) (vi := vi) (e_vi := show Gx 29 = vi from (fx_29))  (h_s := ⟨(Int.le_trans (by decide : (-2147483648 : Int) ≤ -2147483648) rx_p.1), (Int.le_trans rx_p.2 (by decide : (2147483647 : Int) ≤ 2147483647))⟩)  (p_0 := by omega) (p_1 := by omega)) (fun o V' hq => ?_)
  obtain ⟨G1, A2, vi2_3, sv2_4, rfl, rfl, hW5, hF6, hQ7, e8, e9, p10, p11, -⟩ := hq
  have hF13 := Fr_tr hFx hF6 (Fr_sub (by decide)) (Fr_sub (by decide))
  have hP14 := Pf_f hPx hF6 (by decide)
  have hS15 := Fx_f hSx hF6 (by decide)
  have hV16 := Fx_tr hVx hQ7 (by omega)
  have hK17 := Fx_f hKx hF6 (by decide)
  have bvi2_3 : (0 : Int) ≤ vi2_3 ∧ vi2_3 ≤ 202 := e8 ▸ hW5.1 29
  have bsv2_4 : (0 : Int) ≤ sv2_4 ∧ sv2_4 ≤ 201 := e9 ▸ hW5.2 14 _
  refine .inl ⟨rfl, ?_⟩
  refine jx_ld (pc' := 333) (l' := L) (st' := [.ref 66]) rfl (jl_aloadn gL_0) ?_
  refine jx_ar (pc' := 334) (st' := [.ref 66, .ref 66]) rfl rfl rfl rfl ?_
  refine jr_get (pc' := 337) (i := 46) (v := .int (i32 (pc0))) rfl rfl (by decide) (rFv_eq (by decide) (show G1 46 = pc0 from ((hF6.1 46 rfl).trans (fx_46)))) rfl ?_
  refine jx_ar (pc' := 338) (st' := [.int (i32 (1)), .int (i32 (pc0)), .ref 66]) rfl rfl rfl rfl ?_
  refine jx_add (pc' := 339) rfl rfl ?_
  refine jr_put (pc' := 342) (i := 46) (z := (pc0 + 1)) rfl rfl (by decide) rfl rfl rfl rfl rfl rfl ?_
  have hW18 : Wk (uG G1 46 ((pc0 + 1))) A2 := Wk_g hW5 (show (0 : Int) ≤ (pc0 + 1) by omega) (show (pc0 + 1) ≤ (24 : Int) by omega)
  have hF19 := Fr_g (z := (pc0 + 1)) (i := 46) hF13 (by decide)
  refine jx_rt (v := none) rfl rfl rfl rfl rfl rfl ?_
  exact ⟨_, _, ln1, Gx 10, fk1, Gx 31, sy1, na1, vi2_3, A 3 (ln1).toNat, (pc0 + 1), rfl, rfl, hW18, hF19, hP14, hS15, hV16, hK17, ((hF6.1 9 rfl).trans (ex_ln1)), (hF6.1 10 rfl), ((hF6.1 16 rfl).trans (ex_fk1)), (hF6.1 31 rfl), ((hF6.1 19 rfl).trans (ex_sy1)), ((hF6.1 28 rfl).trans (ex_na1)), (e8), (congrFun ((hF6.2 3 rfl).trans (hFx.2 3 rfl)) _), rfl, by omega, by omega, by omega, by omega, by first | exact Or.inl (by omega)⟩
set_option maxRecDepth 20000 in
set_option maxHeartbeats 4000000 in
theorem c_readProc_at_253 {X : jX} {d : Nat} {Vs : Nat → Prop} {sb pb : Int} (hvb : VB Vs sb) {c0 c1 : jC} {G : Nat → Int} {A : Nat → Nat → Int} {T : jH} {ln li at0 fk nd sy na vi le op0 tk0 pc0 : Int} (hd : 8 * 18 + 81 ≤ d + 1) (hW : Wk G A) (e_ln : G 9 = ln) (e_li : G 3 = li) (e_at0 : G 10 = at0) (e_fk : G 16 = fk) (e_nd : G 31 = nd) (e_sy : G 19 = sy) (e_na : G 28 = na) (e_vi : G 29 = vi) (e_le : A 4 (ln).toNat = le) (e_op0 : G 15 = op0) (e_tk0 : G 11 = tk0) (e_pc0 : G 46 = pc0) (i_LT : LT G A) (i_SV : SV Vs sb G A) (i_PQ : PQ Vs sb pb G A) (p_0 : fk = 0) (p_1 : ln < li) (p_2 : at0 ≤ le) (p_3 : nd ≤ 2 * at0 - tz tk0 + 30) (p_4 : sy ≤ na + 2) (p_5 : vi ≤ sy) (p_6 : sb ≤ sy) (p_7 : pb = pc0) (p_8 : wQ A (pc0).toNat (nd) (sy)) (p_9 : VT (Vs) A (sy)) : ∀ (m : Nat) (L : jL) (Gx : Nat → Int) (Ax : Nat → Nat → Int) (p many kk ln1 at1 fk1 sy1 na1 vi1 pp1 mp1 kp1 np1 lf1 : Int), (many - kk).toNat = m → jGet L 0 = some (.ref 66) → jGet L 4 = some (.int (i32 (vi))) → jGet L 1 = some (.int (i32 p)) → jGet L 2 = some (.int (i32 many)) → jGet L 5 = some (.int (i32 kk)) → Wk Gx Ax → Fr [9, 10, 11, 12, 13, 14, 15, 16, 17, 18, 19, 28, 29, 31, 46] [6, 7, 8, 9, 10, 11, 12, 14, 15, 16, 17, 18, 19, 20, 21, 22, 23, 24, 28, 29, 30, 31] G A Gx Ax → Pf nd A Ax → Fx sr (sy) A Ax → Fx [14] (vi) A Ax → Fx [29, 30, 31] (pc0) A Ax → Gx 9 = ln1 → Gx 10 = at1 → Gx 16 = fk1 → Gx 19 = sy1 → Gx 28 = na1 → Gx 29 = vi1 → Ax 29 (pc0).toNat = pp1 → Ax 30 (pc0).toNat = mp1 → Ax 7 (sy).toNat = kp1 → Ax 12 (sy).toNat = np1 → Ax 3 (ln1).toNat = lf1 → Gx 46 = pc0 → Gx 31 = nd → ((-2147483648 : Int) ≤ p ∧ p ≤ 2147483647) → ((-2147483648 : Int) ≤ many ∧ many ≤ 2147483647) → ((-2147483648 : Int) ≤ kk ∧ kk ≤ 2147483647) → (fk1 = 0) → (ln1 = ln + 1) → (at0 ≤ at1) → (at1 < lf1 ∨ li ≤ ln1) → (sy1 = sy + 1 + many) → (sy1 ≤ na1 + 2) → (vi1 = vi + kk) → (0 ≤ kk ∧ kk ≤ many) → (many ≤ 6) → (mp1 = many) → (wM Ax (sy + 1) (many)) → (DS Ax (vi) (vi1) (sy + 1) (sy1)) → (kp1 = 14) → (np1 = pc0) → (pp1 = sy + 1) → (p = sy) → (pc0 ≤ 23) → wj X d jm308 (253, L, [], rV c0 c1 Gx Ax T) (fun o V' => ∃ (G' : Nat → Int) (A' : Nat → Nat → Int) (ln2 : Int) (at2 : Int) (fk2 : Int) (nd2 : Int) (sy2 : Int) (na2 : Int) (vi2 : Int) (lf2 : Int) (pc2 : Int), V' = rV c0 c1 G' A' T ∧ o = .inl none ∧ Wk G' A' ∧ Fr [9, 10, 11, 12, 13, 14, 15, 16, 17, 18, 19, 28, 29, 31, 46] [6, 7, 8, 9, 10, 11, 12, 14, 15, 16, 17, 18, 19, 20, 21, 22, 23, 24, 28, 29, 30, 31] G A G' A' ∧ Pf nd A A' ∧ Fx sr (sy) A A' ∧ Fx [14] (vi) A A' ∧ Fx [29, 30, 31] (pc0) A A' ∧ G' 9 = ln2 ∧ G' 10 = at2 ∧ G' 16 = fk2 ∧ G' 31 = nd2 ∧ G' 19 = sy2 ∧ G' 28 = na2 ∧ G' 29 = vi2 ∧ A' 3 (ln2).toNat = lf2 ∧ G' 46 = pc2 ∧ (sy2 ≤ na2 + 2) ∧ (vi2 ≤ sy2) ∧ (ln ≤ ln2) ∧ (ln2 ≤ li) ∧ (((1 ≤ fk2)) ∨ ((fk2 = 0) ∧ (ln < ln2) ∧ (at0 ≤ at2) ∧ (pc2 = pc0 + 1) ∧ (nd2 - nd ≤ 2 * at2 - (2 * at0 - tz tk0)) ∧ (at2 < lf2 ∨ li ≤ ln2) ∧ (vi2 = vi + 1) ∧ (sy < sy2) ∧ (wQ A' (pc2).toNat (nd2) (sy2)) ∧ (SW (Vu Vs sy) (sy2) (vi2) A') ∧ (PQ (Vu Vs sy) (sy2) (pc2) (fun _ => 0) A') ∧ (VT (Vu Vs sy) A' (sy2))))) := by
  have hF0 : Fr [9, 10, 11, 12, 13, 14, 15, 16, 17, 18, 19, 28, 29, 31, 46] [6, 7, 8, 9, 10, 11, 12, 14, 15, 16, 17, 18, 19, 20, 21, 22, 23, 24, 28, 29, 30, 31] G A G A := Fr_rf
  have hP0 : Pf nd A A := Pf_rf
  have hS0 : Fx sr (sy) A A := Fx_rf
  have hV0 : Fx [14] (vi) A A := Fx_rf
  have hK0 : Fx [29, 30, 31] (pc0) A A := Fx_rf
  have b_ln : (0 : Int) ≤ ln ∧ ln ≤ 3000 := e_ln ▸ hW.1 9
  have b_li : (0 : Int) ≤ li ∧ li ≤ 3000 := e_li ▸ hW.1 3
  have b_at0 : (0 : Int) ≤ at0 ∧ at0 ≤ 3002 := e_at0 ▸ hW.1 10
  have b_fk : (0 : Int) ≤ fk ∧ fk ≤ 6 := e_fk ▸ hW.1 16
  have b_nd : (0 : Int) ≤ nd ∧ nd ≤ 6999 := e_nd ▸ hW.1 31
  have b_sy : (0 : Int) ≤ sy ∧ sy ≤ 202 := e_sy ▸ hW.1 19
  have b_na : (0 : Int) ≤ na ∧ na ≤ 200 := e_na ▸ hW.1 28
  have b_vi : (0 : Int) ≤ vi ∧ vi ≤ 202 := e_vi ▸ hW.1 29
  have b_le : (0 : Int) ≤ le ∧ le ≤ 3000 := e_le ▸ hW.2 4 _
  have b_op0 : (-2147483648 : Int) ≤ op0 ∧ op0 ≤ 2147483647 := e_op0 ▸ hW.1 15
  have z_tk0 := tz_f tk0
  have b_tk0 : (0 : Int) ≤ tk0 ∧ tk0 ≤ 5 := e_tk0 ▸ hW.1 11
  have b_pc0 : (0 : Int) ≤ pc0 ∧ pc0 ≤ 24 := e_pc0 ▸ hW.1 46
  intro m
  induction m using Nat.strongRecOn with
  | ind m ih253 =>
    intro L Gx Ax p many kk ln1 at1 fk1 sy1 na1 vi1 pp1 mp1 kp1 np1 lf1 hm gL_0 gL_4 gL_1 gL_2 gL_5 hWx hFx hPx hSx hVx hKx ex_ln1 ex_at1 ex_fk1 ex_sy1 ex_na1 ex_vi1 ex_pp1 ex_mp1 ex_kp1 ex_np1 ex_lf1 fx_46 fx_31 rx_p rx_many rx_kk iv_0 iv_1 iv_2 iv_3 iv_4 iv_5 iv_6 iv_7 iv_8 iv_9 iv_10 iv_11 iv_12 iv_13 iv_14 iv_15 iv_16
    have b_ln1 : (0 : Int) ≤ ln1 ∧ ln1 ≤ 3000 := ex_ln1 ▸ hWx.1 9
    have b_at1 : (0 : Int) ≤ at1 ∧ at1 ≤ 3002 := ex_at1 ▸ hWx.1 10
    have b_fk1 : (0 : Int) ≤ fk1 ∧ fk1 ≤ 6 := ex_fk1 ▸ hWx.1 16
    have b_sy1 : (0 : Int) ≤ sy1 ∧ sy1 ≤ 202 := ex_sy1 ▸ hWx.1 19
    have b_na1 : (0 : Int) ≤ na1 ∧ na1 ≤ 200 := ex_na1 ▸ hWx.1 28
    have b_vi1 : (0 : Int) ≤ vi1 ∧ vi1 ≤ 202 := ex_vi1 ▸ hWx.1 29
    refine jx_ld (pc' := 255) (l' := L) (st' := [.int (i32 (kk))]) rfl (jl_iload gL_5) ?_
    refine jx_ld (pc' := 256) (l' := L) (st' := [.int (i32 (many)), .int (i32 (kk))]) rfl (jl_iloadn gL_2) ?_
    refine jx_icmp_ge (pc' := 259) (tg := 281) rfl rfl rfl (Int.le_trans (by decide : (-2147483648 : Int) ≤ -2147483648) rx_kk.1) (Int.le_trans rx_kk.2 (by decide : (2147483647 : Int) ≤ 2147483647)) (Int.le_trans (by decide : (-2147483648 : Int) ≤ -2147483648) rx_many.1) (Int.le_trans rx_many.2 (by decide : (2147483647 : Int) ≤ 2147483647)) (fun h20 => ?_) (fun h20 => ?_)
    · have _q := h20
      refine jx_ld (pc' := 282) (l' := L) (st' := [.ref 66]) rfl (jl_aloadn gL_0) ?_
      refine jr_get (pc' := 285) (i := 49) (v := .ref 98) rfl rfl (by decide) rfl rfl ?_
      refine jx_ld (pc' := 286) (l' := L) (st' := [.ref 66, .ref 98]) rfl (jl_aloadn gL_0) ?_
      refine jr_get (pc' := 289) (i := 46) (v := .int (i32 (pc0))) rfl rfl (by decide) (rFv_eq (by decide) (show Gx 46 = pc0 from (fx_46))) rfl ?_
      refine jx_ld (pc' := 290) (l' := L) (st' := [.ref 66, .int (i32 (pc0)), .ref 98]) rfl (jl_aloadn gL_0) ?_
      refine jx_ar (pc' := 291) (st' := [.int (i32 (1)), .ref 66, .int (i32 (pc0)), .ref 98]) rfl rfl rfl rfl ?_
      refine jx_vr (pc' := 294) (as := [.int (i32 (1))]) (st := [.int (i32 (pc0)), .ref 98]) rfl rfl rfl rfl ⟨rfl, rfl, Nat.le_of_ble_eq_true rfl⟩ rfl rfl (RP_all X 18 (dd := d) (hd := by omega) (hW := hWx) (lv := 1) (at0 := at1) (ln := ln1) (e_ln := show Gx 9 = ln1 from (ex_ln1)) (li := li) (e_li := show Gx 3 = li from ((hFx.1 3 rfl).trans (e_li))) (fk := fk1) (e_fk := show Gx 16 = fk1 from (ex_fk1)) (nd := nd) (e_nd := show Gx 31 = nd from (fx_31)) (sy := sy1) (e_sy := show Gx 19 = sy1 from (ex_sy1)) (na := na1) (e_na := show Gx 28 = na1 from (ex_na1)) (vi := vi1) (e_vi := show Gx 29 = vi1 from (ex_vi1)) (lf := lf1) (e_lf := show Ax 3 (ln1).toNat = lf1 from (ex_lf1)) (ac := at1) (e_ac := show Gx 10 = at1 from (ex_at1)) (i_LT := (LT_ext ((hFx.1 3 rfl)) ((hFx.2 3 rfl)) ((hFx.2 4 rfl)) i_LT)) (i_SV := (SV_dec (s0 := (sy + 1)) (s1 := sy1) i_SV e_vi (show Gx 29 = vi1 from (ex_vi1)) (by omega) hVx iv_11 (by omega))) (i_PQ := (PQ_par (s0 := (sy + 1)) (s1 := sy1) i_PQ hSx (by omega) (by omega) (Fx_su hKx (by omega)) (by omega) (wM_m iv_10 (by omega)) hvb)) (hvb := (VB_d (s0 := (sy + 1)) (s1 := sy1) hvb (by omega))) (h_lv := ⟨(by decide), (by decide)⟩)  (p_0 := by omega) (p_1 := by omega) (p_2 := by omega) (p_3 := by omega) (p_4 := by omega) (p_5 := by omega) (p_6 := by omega) (p_7 := by omega) (p_8 := by omega) (p_9 := by omega) (p_10 := by omega)) (fun o V' hq => ?_)
      obtain ⟨G21, A22, r23, ln2_24, at2_25, fk2_26, nd2_27, sy2_28, na2_29, vi2_30, lf2_31, rfl, rfl, hW32, hF33, hQ34, hQ35, hQ36, b37, e38, e39, e40, e41, e42, e43, e44, e45, p46, p47, p48, p49, p50, p51, p52, p53, p54, q55⟩ := hq
      have hF56 := Fr_tr hFx hF33 (Fr_sub (by decide)) (Fr_sub (by decide))
      have hP57 := Pf_tr hPx hQ34 (by omega)
      have hS58 := Fx_tr hSx hQ35 (by omega)
      have hV59 := Fx_tr hVx hQ36 (by omega)
      have hK60 := Fx_f hKx hF33 (by decide)
      have k61 : A22 7 (sy).toNat = kp1 := (hQ35 7 _ rfl (by omega)).trans (show Ax 7 (sy).toNat = kp1 from (ex_kp1))
      have k62 : A22 12 (sy).toNat = np1 := (hQ35 12 _ rfl (by omega)).trans (show Ax 12 (sy).toNat = np1 from (ex_np1))
      have sf63 : wM A22 (sy + 1) (many) := wM_fx hQ35 (by omega) (by omega) iv_10
      have sf64 : DS A22 (vi) (vi1) (sy + 1) (sy1) := DS_fx hQ36 (by omega) iv_11
      have bln2_24 : (0 : Int) ≤ ln2_24 ∧ ln2_24 ≤ 3000 := e38 ▸ hW32.1 9
      have bat2_25 : (0 : Int) ≤ at2_25 ∧ at2_25 ≤ 3002 := e39 ▸ hW32.1 10
      have bfk2_26 : (0 : Int) ≤ fk2_26 ∧ fk2_26 ≤ 6 := e40 ▸ hW32.1 16
      have bnd2_27 : (0 : Int) ≤ nd2_27 ∧ nd2_27 ≤ 6999 := e41 ▸ hW32.1 31
      have bsy2_28 : (0 : Int) ≤ sy2_28 ∧ sy2_28 ≤ 202 := e42 ▸ hW32.1 19
      have bna2_29 : (0 : Int) ≤ na2_29 ∧ na2_29 ≤ 200 := e43 ▸ hW32.1 28
      have bvi2_30 : (0 : Int) ≤ vi2_30 ∧ vi2_30 ≤ 202 := e44 ▸ hW32.1 29
      have blf2_31 : (0 : Int) ≤ lf2_31 ∧ lf2_31 ≤ 3000 := e45 ▸ hW32.2 3 _
      refine .inr ⟨_, rfl, ?_⟩
      rcases q55 with ⟨a65, a66⟩ | ⟨a67, a68, a69, a70, a71, a72, a73, a74⟩
      · have _q : True := trivial
        refine jr_st (pc' := 295) (i := 31) (m := 25) (z := pc0) (y := r23) rfl (by decide) rfl (by decide) (by omega) (by omega) rfl ?_
        have hW76 : Wk G21 (uA A22 31 (pc0).toNat (r23)) := Wk_a hW32 (show (-2147483648 : Int) ≤ r23 by omega) (show r23 ≤ (2147483647 : Int) by omega)
        have hF77 := Fr_a (z := r23) (k := 31) (n := (pc0).toNat) hF56 (by decide)
        obtain ⟨A75, eA75⟩ : ∃ q, q = uA A22 31 (pc0).toNat (r23) := ⟨_, rfl⟩
        rw [← eA75]
        rw [← eA75] at hW76 hF77
        have q78 : A75 31 (pc0).toNat = r23 := by rw [eA75]; exact uA_eq
        have hP79 : Pf nd A A75 := eA75 ▸ Pf_n hP57 rfl
        have hS80 : Fx sr (sy) A A75 := eA75 ▸ Fx_n hS58 rfl
        have hV81 : Fx [14] (vi) A A75 := eA75 ▸ Fx_n hV59 rfl
        have hK82 : Fx [29, 30, 31] (pc0) A A75 := eA75 ▸ Fx_a hK60 (z := pc0) (by omega) (by omega)
        have sf83 : wM A75 (sy + 1) (many) := wM_fx (Sg_ne (sb := sy + 1 + many) eA75 rfl) (by omega) (by omega) sf63
        have sf84 : DS A75 (vi) (vi1) (sy + 1) (sy1) := DS_ext ((congrFun eA75 14).trans (uA_ne (by decide))) sf64
        refine jx_ld (pc' := 296) (l' := L) (st' := [.ref 66]) rfl (jl_aloadn gL_0) ?_
        refine jx_ld (pc' := 298) (l' := L) (st' := [.int (i32 (vi)), .ref 66]) rfl (jl_iload gL_4) ?_
        refine jr_put (pc' := 301) (i := 29) (z := vi) rfl rfl (by decide) rfl rfl rfl rfl rfl rfl ?_
        have hW85 : Wk (uG G21 29 (vi)) A75 := Wk_g hW76 (show (0 : Int) ≤ vi by omega) (show vi ≤ (202 : Int) by omega)
        have hF86 := Fr_g (z := vi) (i := 29) hF77 (by decide)
        have _q : True := trivial
        refine jx_ld (pc' := 302) (l' := L) (st' := [.ref 66]) rfl (jl_aloadn gL_0) ?_
        refine jx_ar (pc' := 303) (st' := [.int (i32 (0)), .ref 66]) rfl rfl rfl rfl ?_
        have b87 : (-1 : Int) ≤ A 5 (ln2_24).toNat ∧ A 5 (ln2_24).toNat ≤ 15 := hW.2 5 _
        refine jx_vr (pc' := 306) (as := [.int (i32 (0))]) (st := []) rfl rfl rfl rfl ⟨rfl, rfl, Nat.le_of_ble_eq_true rfl⟩ rfl rfl (c_needLevel (dd := d) (hd := by omega) (hW := hW85) (lv := 0) (ln := ln2_24) (e_ln := show (uG G21 29 (vi)) 9 = ln2_24 from (e38)) (li := li) (e_li := show (uG G21 29 (vi)) 3 = li from ((hF33.1 3 rfl).trans ((hFx.1 3 rfl).trans (e_li)))) (fk := fk2_26) (e_fk := show (uG G21 29 (vi)) 16 = fk2_26 from (e40)) (ll := A 5 (ln2_24).toNat) (e_ll := show A75 5 (ln2_24).toNat = A 5 (ln2_24).toNat from (congrFun (((congrFun eA75 5).trans (uA_ne (by decide))).trans ((hF33.2 5 rfl).trans (hFx.2 5 rfl))) _))  (h_lv := ⟨(by decide), (by decide)⟩)  ) (fun o V' hq => ?_)
        obtain ⟨G88, A89, r90, fk2_91, rfl, rfl, hW92, hF93, b94, e95, q96⟩ := hq
        have hF97 := Fr_tr hF86 hF93 (Fr_sub (by decide)) (Fr_sub (by decide))
        have hP98 := Pf_f hP79 hF93 (by decide)
        have hS99 := Fx_f hS80 hF93 (by decide)
        have hV100 := Fx_f hV81 hF93 (by decide)
        have hK101 := Fx_f hK82 hF93 (by decide)
        have sf102 : wM A89 (sy + 1) (many) := wM_fx (Sg_fr (sb := sy + 1 + many) hF93 (by decide)) (by omega) (by omega) sf83
        have bfk2_91 : (0 : Int) ≤ fk2_91 ∧ fk2_91 ≤ 6 := e95 ▸ hW92.1 16
        refine .inr ⟨_, rfl, ?_⟩
        rcases q96 with ⟨rfl, a103, a104, a105, a106⟩ | ⟨rfl, a107⟩
        · have _q : True := trivial
          exfalso
          omega
        · have _q : True := trivial
          refine jx_if_eq (pc' := 309) (tg := 327) rfl rfl rfl (by decide) (by decide) (fun h108 => ?_) (fun h108 => ?_)
          · have _q := h108
            exact c_readProc_at_327p (X := X) (d := d) (Vs := Vs) (sb := sb) (pb := pb) (hvb := hvb) (c0 := c0) (c1 := c1) (G := G) (A := A) (T := T) (ln := ln) (li := li) (at0 := at0) (fk := fk) (nd := nd) (sy := sy) (na := na) (vi := vi) (le := le) (op0 := op0) (tk0 := tk0) (pc0 := pc0) (hd := hd) (hW := hW) (e_ln := e_ln) (e_li := e_li) (e_at0 := e_at0) (e_fk := e_fk) (e_nd := e_nd) (e_sy := e_sy) (e_na := e_na) (e_vi := e_vi) (e_le := e_le) (e_op0 := e_op0) (e_tk0 := e_tk0) (e_pc0 := e_pc0) (i_LT := i_LT) (i_SV := i_SV) (i_PQ := i_PQ) (p_0 := p_0) (p_1 := p_1) (p_2 := p_2) (p_3 := p_3) (p_4 := p_4) (p_5 := p_5) (p_6 := p_6) (p_7 := p_7) (p_8 := p_8) (p_9 := p_9) L G88 A89 (p) (ln2_24) (fk2_91) (sy2_28) (na2_29) gL_0 gL_1 hW92 hF97 hP98 hS99 hV100 hK101 (((hF93.1 9 rfl).trans (e38))) ((e95)) (((hF93.1 19 rfl).trans (e42))) (((hF93.1 28 rfl).trans (e43))) ((hF93.1 29 rfl)) (((hF93.1 46 rfl).trans ((hF33.1 46 rfl).trans (fx_46)))) (by omega) (by omega) (by omega) (by omega) (by omega) (by omega) (by omega) (by omega)
          · have _q := h108
            exact absurd h108 (by omega)
      · have _q : True := trivial
        refine jr_st (pc' := 295) (i := 31) (m := 25) (z := pc0) (y := r23) rfl (by decide) rfl (by decide) (by omega) (by omega) rfl ?_
        have hW110 : Wk G21 (uA A22 31 (pc0).toNat (r23)) := Wk_a hW32 (show (-2147483648 : Int) ≤ r23 by omega) (show r23 ≤ (2147483647 : Int) by omega)
        have hF111 := Fr_a (z := r23) (k := 31) (n := (pc0).toNat) hF56 (by decide)
        obtain ⟨A109, eA109⟩ : ∃ q, q = uA A22 31 (pc0).toNat (r23) := ⟨_, rfl⟩
        rw [← eA109]
        rw [← eA109] at hW110 hF111
        have q112 : A109 31 (pc0).toNat = r23 := by rw [eA109]; exact uA_eq
        have hP113 : Pf nd A A109 := eA109 ▸ Pf_n hP57 rfl
        have hS114 : Fx sr (sy) A A109 := eA109 ▸ Fx_n hS58 rfl
        have hV115 : Fx [14] (vi) A A109 := eA109 ▸ Fx_n hV59 rfl
        have hK116 : Fx [29, 30, 31] (pc0) A A109 := eA109 ▸ Fx_a hK60 (z := pc0) (by omega) (by omega)
        have sf117 : wM A109 (sy + 1) (many) := wM_fx (Sg_ne (sb := sy + 1 + many) eA109 rfl) (by omega) (by omega) sf63
        have sf118 : DS A109 (vi) (vi1) (sy + 1) (sy1) := DS_ext ((congrFun eA109 14).trans (uA_ne (by decide))) sf64
        have sf119 : wP A109 (sy2_28) pb (18) (Vd Vs (sy + 1) sy1) (r23) (nd) (nd2_27) (sy1) (sy2_28) := wP_ag (Sg_ne eA109 rfl) (Qg_ne eA109 rfl) (by omega) (by omega) (Ax_ag (Ag_ne eA109 rfl)) a73
        have sf120 : NX A109 (r23) := NX_r eA109 (by decide) a74
        refine jx_ld (pc' := 296) (l' := L) (st' := [.ref 66]) rfl (jl_aloadn gL_0) ?_
        refine jx_ld (pc' := 298) (l' := L) (st' := [.int (i32 (vi)), .ref 66]) rfl (jl_iload gL_4) ?_
        refine jr_put (pc' := 301) (i := 29) (z := vi) rfl rfl (by decide) rfl rfl rfl rfl rfl rfl ?_
        have hW121 : Wk (uG G21 29 (vi)) A109 := Wk_g hW110 (show (0 : Int) ≤ vi by omega) (show vi ≤ (202 : Int) by omega)
        have hF122 := Fr_g (z := vi) (i := 29) hF111 (by decide)
        have _q : True := trivial
        refine jx_ld (pc' := 302) (l' := L) (st' := [.ref 66]) rfl (jl_aloadn gL_0) ?_
        refine jx_ar (pc' := 303) (st' := [.int (i32 (0)), .ref 66]) rfl rfl rfl rfl ?_
        have b123 : (-1 : Int) ≤ A 5 (ln2_24).toNat ∧ A 5 (ln2_24).toNat ≤ 15 := hW.2 5 _
        refine jx_vr (pc' := 306) (as := [.int (i32 (0))]) (st := []) rfl rfl rfl rfl ⟨rfl, rfl, Nat.le_of_ble_eq_true rfl⟩ rfl rfl (c_needLevel (dd := d) (hd := by omega) (hW := hW121) (lv := 0) (ln := ln2_24) (e_ln := show (uG G21 29 (vi)) 9 = ln2_24 from (e38)) (li := li) (e_li := show (uG G21 29 (vi)) 3 = li from ((hF33.1 3 rfl).trans ((hFx.1 3 rfl).trans (e_li)))) (fk := fk2_26) (e_fk := show (uG G21 29 (vi)) 16 = fk2_26 from (e40)) (ll := A 5 (ln2_24).toNat) (e_ll := show A109 5 (ln2_24).toNat = A 5 (ln2_24).toNat from (congrFun (((congrFun eA109 5).trans (uA_ne (by decide))).trans ((hF33.2 5 rfl).trans (hFx.2 5 rfl))) _))  (h_lv := ⟨(by decide), (by decide)⟩)  ) (fun o V' hq => ?_)
        obtain ⟨G124, A125, r126, fk2_127, rfl, rfl, hW128, hF129, b130, e131, q132⟩ := hq
        have hF133 := Fr_tr hF122 hF129 (Fr_sub (by decide)) (Fr_sub (by decide))
        have hP134 := Pf_f hP113 hF129 (by decide)
        have hS135 := Fx_f hS114 hF129 (by decide)
        have hV136 := Fx_f hV115 hF129 (by decide)
        have hK137 := Fx_f hK116 hF129 (by decide)
        have sf138 : wM A125 (sy + 1) (many) := wM_fx (Sg_fr (sb := sy + 1 + many) hF129 (by decide)) (by omega) (by omega) sf117
        have sf139 : wP A125 (sy2_28) pb (18) (Vd Vs (sy + 1) sy1) (r23) (nd) (nd2_27) (sy1) (sy2_28) := wP_ag (Sg_fr hF129 (by decide)) (Qg_fr hF129 (by decide)) (by omega) (by omega) (Ax_ag (Ag_fr hF129 (by decide))) sf119
        have sf140 : NX A125 (r23) := NX_ag (by omega) (Ag_fr hF129 (by decide)) sf120
        have bfk2_127 : (0 : Int) ≤ fk2_127 ∧ fk2_127 ≤ 6 := e131 ▸ hW128.1 16
        refine .inr ⟨_, rfl, ?_⟩
        rcases q132 with ⟨rfl, a141, a142, a143, a144⟩ | ⟨rfl, a145⟩
        · have _q : True := trivial
          have b146 : (0 : Int) ≤ A 4 (ln2_24).toNat ∧ A 4 (ln2_24).toNat ≤ 3000 := hW.2 4 _
          have lt147 : lf2_31 < A 4 (ln2_24).toNat := LT_at (LT_ext (((hF129.1 3 rfl).trans ((hF33.1 3 rfl).trans (hFx.1 3 rfl)))) (((hF129.2 3 rfl).trans (((congrFun eA109 3).trans (uA_ne (by decide))).trans ((hF33.2 3 rfl).trans (hFx.2 3 rfl))))) (((hF129.2 4 rfl).trans (((congrFun eA109 4).trans (uA_ne (by decide))).trans ((hF33.2 4 rfl).trans (hFx.2 4 rfl))))) i_LT) (show G124 3 = li from ((hF129.1 3 rfl).trans ((hF33.1 3 rfl).trans ((hFx.1 3 rfl).trans (e_li))))) (show A125 3 (ln2_24).toNat = lf2_31 from (congrFun ((hF129.2 3 rfl).trans ((congrFun eA109 3).trans (uA_ne (by decide)))) _).trans (e45)) (show A125 4 (ln2_24).toNat = A 4 (ln2_24).toNat from (congrFun ((hF129.2 4 rfl).trans (((congrFun eA109 4).trans (uA_ne (by decide))).trans ((hF33.2 4 rfl).trans (hFx.2 4 rfl)))) _)) (by omega) (by omega)
          refine jx_if_eq (pc' := 309) (tg := 327) rfl rfl rfl (by decide) (by decide) (fun h148 => ?_) (fun h148 => ?_)
          · have _q := h148
            exact absurd h148 (by omega)
          · have _q := h148
            refine jx_ld (pc' := 310) (l' := L) (st' := [.ref 66]) rfl (jl_aloadn gL_0) ?_
            refine jx_vr (pc' := 313) (as := []) (st := []) rfl rfl rfl rfl ⟨rfl, rfl, Nat.le_of_ble_eq_true rfl⟩ rfl rfl (c_openLine (dd := d) (hd := by omega) (hW := hW128)  (ln := ln2_24) (e_ln := show G124 9 = ln2_24 from ((hF129.1 9 rfl).trans (e38))) (le := A 4 (ln2_24).toNat) (e_le := show A125 4 (ln2_24).toNat = A 4 (ln2_24).toNat from (congrFun ((hF129.2 4 rfl).trans (((congrFun eA109 4).trans (uA_ne (by decide))).trans ((hF33.2 4 rfl).trans (hFx.2 4 rfl)))) _)) (lf := lf2_31) (e_lf := show A125 3 (ln2_24).toNat = lf2_31 from (congrFun ((hF129.2 3 rfl).trans ((congrFun eA109 3).trans (uA_ne (by decide)))) _).trans (e45))    (p_0 := by omega)) (fun o V' hq => ?_)
            obtain ⟨G149, A150, at2_151, tk2_152, op2_153, rfl, rfl, hW154, hF155, e156, e157, e158, p159, p160, p161, p162, -⟩ := hq
            have hF164 := Fr_tr hF133 hF155 (Fr_sub (by decide)) (Fr_sub (by decide))
            have hP165 := Pf_f hP134 hF155 (by decide)
            have hS166 := Fx_f hS135 hF155 (by decide)
            have hV167 := Fx_f hV136 hF155 (by decide)
            have hK168 := Fx_f hK137 hF155 (by decide)
            have sf169 : wM A150 (sy + 1) (many) := wM_fx (Sg_fr (sb := sy + 1 + many) hF155 (by decide)) (by omega) (by omega) sf138
            have sf170 : wP A150 (sy2_28) pb (18) (Vd Vs (sy + 1) sy1) (r23) (nd) (nd2_27) (sy1) (sy2_28) := wP_ag (Sg_fr hF155 (by decide)) (Qg_fr hF155 (by decide)) (by omega) (by omega) (Ax_ag (Ag_fr hF155 (by decide))) sf139
            have sf171 : NX A150 (r23) := NX_ag (by omega) (Ag_fr hF155 (by decide)) sf140
            have bat2_151 : (0 : Int) ≤ at2_151 ∧ at2_151 ≤ 3002 := e156 ▸ hW154.1 10
            have ztk2_152 := tz_b tk2_152
            have btk2_152 : (0 : Int) ≤ tk2_152 ∧ tk2_152 ≤ 5 := e157 ▸ hW154.1 11
            have bop2_153 : (-2147483648 : Int) ≤ op2_153 ∧ op2_153 ≤ 2147483647 := e158 ▸ hW154.1 15
            refine .inl ⟨rfl, ?_⟩
            refine jx_ld (pc' := 314) (l' := L) (st' := [.ref 66]) rfl (jl_aloadn gL_0) ?_
            refine jx_ld (pc' := 315) (l' := L) (st' := [.ref 66, .ref 66]) rfl (jl_aloadn gL_0) ?_
            refine jx_ar (pc' := 317) (st' := [.int (i32 (58)), .ref 66, .ref 66]) rfl rfl rfl rfl ?_
            have b172 : (-2147483648 : Int) ≤ G149 13 ∧ G149 13 ≤ 2147483647 := hW154.1 13
            refine jx_vr (pc' := 320) (as := [.int (i32 (58))]) (st := [.ref 66]) rfl rfl rfl rfl ⟨rfl, rfl, Nat.le_of_ble_eq_true rfl⟩ rfl rfl (c_is (dd := d) (hd := by omega) (hW := hW154) (k := 58) (tk := tk2_152) (e_tk := show G149 11 = tk2_152 from (e157)) (tn := G149 13) (e_tn := show G149 13 = G149 13 from rfl)  (h_k := ⟨(by decide), (by decide)⟩)  ) (fun o V' hq => ?_)
            obtain ⟨r173, rfl, rfl, b174, q175⟩ := hq
            refine .inr ⟨_, rfl, ?_⟩
            rcases q175 with ⟨rfl, a176, a177, a178⟩ | rfl
            · have _q : True := trivial
              refine jx_vr (pc' := 323) (as := [.int (i32 (1))]) (st := []) rfl rfl rfl rfl ⟨rfl, rfl, Nat.le_of_ble_eq_true rfl⟩ rfl rfl (c_need (dd := d) (hd := by omega) (hW := hW154) (g := 1) (ln := ln2_24) (e_ln := show G149 9 = ln2_24 from ((hF155.1 9 rfl).trans ((hF129.1 9 rfl).trans (e38)))) (le := A 4 (ln2_24).toNat) (e_le := show A150 4 (ln2_24).toNat = A 4 (ln2_24).toNat from (congrFun ((hF155.2 4 rfl).trans ((hF129.2 4 rfl).trans (((congrFun eA109 4).trans (uA_ne (by decide))).trans ((hF33.2 4 rfl).trans (hFx.2 4 rfl))))) _)) (at0 := at2_151) (e_at0 := show G149 10 = at2_151 from (e156)) (fk := fk2_127) (e_fk := show G149 16 = fk2_127 from ((hF155.1 16 rfl).trans (e131))) (tk0 := tk2_152) (e_tk0 := show G149 11 = tk2_152 from (e157))  (h_g := ⟨(by decide), (by decide)⟩)  (p_0 := by omega)) (fun o V' hq => ?_)
              obtain ⟨G179, A180, at2_181, tk2_182, fk2_183, rfl, rfl, hW184, hF185, e186, e187, e188, p189, p190, q191⟩ := hq
              have hF192 := Fr_tr hF164 hF185 (Fr_sub (by decide)) (Fr_sub (by decide))
              have hP193 := Pf_f hP165 hF185 (by decide)
              have hS194 := Fx_f hS166 hF185 (by decide)
              have hV195 := Fx_f hV167 hF185 (by decide)
              have hK196 := Fx_f hK168 hF185 (by decide)
              have sf197 : wM A180 (sy + 1) (many) := wM_fx (Sg_fr (sb := sy + 1 + many) hF185 (by decide)) (by omega) (by omega) sf169
              have sf198 : wP A180 (sy2_28) pb (18) (Vd Vs (sy + 1) sy1) (r23) (nd) (nd2_27) (sy1) (sy2_28) := wP_ag (Sg_fr hF185 (by decide)) (Qg_fr hF185 (by decide)) (by omega) (by omega) (Ax_ag (Ag_fr hF185 (by decide))) sf170
              have sf199 : NX A180 (r23) := NX_ag (by omega) (Ag_fr hF185 (by decide)) sf171
              have bat2_181 : (0 : Int) ≤ at2_181 ∧ at2_181 ≤ 3002 := e186 ▸ hW184.1 10
              have ztk2_182 := tz_b tk2_182
              have btk2_182 : (0 : Int) ≤ tk2_182 ∧ tk2_182 ≤ 5 := e187 ▸ hW184.1 11
              have bfk2_183 : (0 : Int) ≤ fk2_183 ∧ fk2_183 ≤ 6 := e188 ▸ hW184.1 16
              refine .inl ⟨rfl, ?_⟩
              rcases q191 with ⟨a200, a201, a202, a203⟩ | ⟨a204, a205, a206, a207⟩
              · have _q : True := trivial
                refine jx_ld (pc' := 324) (l' := L) (st' := [.ref 66]) rfl (jl_aloadn gL_0) ?_
                refine jx_vr (pc' := 327) (as := []) (st := []) rfl rfl rfl rfl ⟨rfl, rfl, Nat.le_of_ble_eq_true rfl⟩ rfl rfl (c_endLine (dd := d) (hd := by omega) (hW := hW184)  (ln := ln2_24) (e_ln := show G179 9 = ln2_24 from ((hF185.1 9 rfl).trans ((hF155.1 9 rfl).trans ((hF129.1 9 rfl).trans (e38))))) (li := li) (e_li := show G179 3 = li from ((hF185.1 3 rfl).trans ((hF155.1 3 rfl).trans ((hF129.1 3 rfl).trans ((hF33.1 3 rfl).trans ((hFx.1 3 rfl).trans (e_li))))))) (fk := fk2_183) (e_fk := show G179 16 = fk2_183 from (e188)) (tk0 := tk2_182) (e_tk0 := show G179 11 = tk2_182 from (e187))    (p_0 := by omega)) (fun o V' hq => ?_)
                obtain ⟨G208, A209, ln2_210, fk2_211, rfl, rfl, hW212, hF213, e214, e215, q216⟩ := hq
                have hF217 := Fr_tr hF192 hF213 (Fr_sub (by decide)) (Fr_sub (by decide))
                have hP218 := Pf_f hP193 hF213 (by decide)
                have hS219 := Fx_f hS194 hF213 (by decide)
                have hV220 := Fx_f hV195 hF213 (by decide)
                have hK221 := Fx_f hK196 hF213 (by decide)
                have sf222 : wM A209 (sy + 1) (many) := wM_fx (Sg_fr (sb := sy + 1 + many) hF213 (by decide)) (by omega) (by omega) sf197
                have sf223 : wP A209 (sy2_28) pb (18) (Vd Vs (sy + 1) sy1) (r23) (nd) (nd2_27) (sy1) (sy2_28) := wP_ag (Sg_fr hF213 (by decide)) (Qg_fr hF213 (by decide)) (by omega) (by omega) (Ax_ag (Ag_fr hF213 (by decide))) sf198
                have sf224 : NX A209 (r23) := NX_ag (by omega) (Ag_fr hF213 (by decide)) sf199
                have bln2_210 : (0 : Int) ≤ ln2_210 ∧ ln2_210 ≤ 3000 := e214 ▸ hW212.1 9
                have bfk2_211 : (0 : Int) ≤ fk2_211 ∧ fk2_211 ≤ 6 := e215 ▸ hW212.1 16
                refine .inl ⟨rfl, ?_⟩
                rcases q216 with ⟨a225, a226, a227, a228, a229⟩ | ⟨a230, a231⟩
                · have _q : True := trivial
                  exfalso
                  omega
                · have _q : True := trivial
                  exact c_readProc_at_327p (X := X) (d := d) (Vs := Vs) (sb := sb) (pb := pb) (hvb := hvb) (c0 := c0) (c1 := c1) (G := G) (A := A) (T := T) (ln := ln) (li := li) (at0 := at0) (fk := fk) (nd := nd) (sy := sy) (na := na) (vi := vi) (le := le) (op0 := op0) (tk0 := tk0) (pc0 := pc0) (hd := hd) (hW := hW) (e_ln := e_ln) (e_li := e_li) (e_at0 := e_at0) (e_fk := e_fk) (e_nd := e_nd) (e_sy := e_sy) (e_na := e_na) (e_vi := e_vi) (e_le := e_le) (e_op0 := e_op0) (e_tk0 := e_tk0) (e_pc0 := e_pc0) (i_LT := i_LT) (i_SV := i_SV) (i_PQ := i_PQ) (p_0 := p_0) (p_1 := p_1) (p_2 := p_2) (p_3 := p_3) (p_4 := p_4) (p_5 := p_5) (p_6 := p_6) (p_7 := p_7) (p_8 := p_8) (p_9 := p_9) L G208 A209 (p) (ln2_210) (fk2_211) (sy2_28) (na2_29) gL_0 gL_1 hW212 hF217 hP218 hS219 hV220 hK221 ((e214)) ((e215)) (((hF213.1 19 rfl).trans ((hF185.1 19 rfl).trans ((hF155.1 19 rfl).trans ((hF129.1 19 rfl).trans (e42)))))) (((hF213.1 28 rfl).trans ((hF185.1 28 rfl).trans ((hF155.1 28 rfl).trans ((hF129.1 28 rfl).trans (e43)))))) (((hF213.1 29 rfl).trans ((hF185.1 29 rfl).trans ((hF155.1 29 rfl).trans (hF129.1 29 rfl))))) (((hF213.1 46 rfl).trans ((hF185.1 46 rfl).trans ((hF155.1 46 rfl).trans ((hF129.1 46 rfl).trans ((hF33.1 46 rfl).trans (fx_46))))))) (by omega) (by omega) (by omega) (by omega) (by omega) (by omega) (by omega) (by omega)
              · have _q : True := trivial
                refine jx_ld (pc' := 324) (l' := L) (st' := [.ref 66]) rfl (jl_aloadn gL_0) ?_
                refine jx_vr (pc' := 327) (as := []) (st := []) rfl rfl rfl rfl ⟨rfl, rfl, Nat.le_of_ble_eq_true rfl⟩ rfl rfl (c_endLine (dd := d) (hd := by omega) (hW := hW184)  (ln := ln2_24) (e_ln := show G179 9 = ln2_24 from ((hF185.1 9 rfl).trans ((hF155.1 9 rfl).trans ((hF129.1 9 rfl).trans (e38))))) (li := li) (e_li := show G179 3 = li from ((hF185.1 3 rfl).trans ((hF155.1 3 rfl).trans ((hF129.1 3 rfl).trans ((hF33.1 3 rfl).trans ((hFx.1 3 rfl).trans (e_li))))))) (fk := fk2_183) (e_fk := show G179 16 = fk2_183 from (e188)) (tk0 := tk2_182) (e_tk0 := show G179 11 = tk2_182 from (e187))    (p_0 := by omega)) (fun o V' hq => ?_)
                obtain ⟨G232, A233, ln2_234, fk2_235, rfl, rfl, hW236, hF237, e238, e239, q240⟩ := hq
                have hF241 := Fr_tr hF192 hF237 (Fr_sub (by decide)) (Fr_sub (by decide))
                have hP242 := Pf_f hP193 hF237 (by decide)
                have hS243 := Fx_f hS194 hF237 (by decide)
                have hV244 := Fx_f hV195 hF237 (by decide)
                have hK245 := Fx_f hK196 hF237 (by decide)
                have sf246 : wM A233 (sy + 1) (many) := wM_fx (Sg_fr (sb := sy + 1 + many) hF237 (by decide)) (by omega) (by omega) sf197
                have sf247 : wP A233 (sy2_28) pb (18) (Vd Vs (sy + 1) sy1) (r23) (nd) (nd2_27) (sy1) (sy2_28) := wP_ag (Sg_fr hF237 (by decide)) (Qg_fr hF237 (by decide)) (by omega) (by omega) (Ax_ag (Ag_fr hF237 (by decide))) sf198
                have sf248 : NX A233 (r23) := NX_ag (by omega) (Ag_fr hF237 (by decide)) sf199
                have bln2_234 : (0 : Int) ≤ ln2_234 ∧ ln2_234 ≤ 3000 := e238 ▸ hW236.1 9
                have bfk2_235 : (0 : Int) ≤ fk2_235 ∧ fk2_235 ≤ 6 := e239 ▸ hW236.1 16
                refine .inl ⟨rfl, ?_⟩
                rcases q240 with ⟨a249, a250, a251, a252, a253⟩ | ⟨a254, a255⟩
                · have _q : True := trivial
                  have b256 : (0 : Int) ≤ A 3 (ln2_234).toNat ∧ A 3 (ln2_234).toNat ≤ 3000 := hW.2 3 _
                  have lt257 : ln2_234 < li → A 4 (ln2_24).toNat < A 3 (ln2_234).toNat := fun hh => LT_nx (LT_ext (((hF237.1 3 rfl).trans ((hF185.1 3 rfl).trans ((hF155.1 3 rfl).trans ((hF129.1 3 rfl).trans ((hF33.1 3 rfl).trans (hFx.1 3 rfl))))))) (((hF237.2 3 rfl).trans ((hF185.2 3 rfl).trans ((hF155.2 3 rfl).trans ((hF129.2 3 rfl).trans (((congrFun eA109 3).trans (uA_ne (by decide))).trans ((hF33.2 3 rfl).trans (hFx.2 3 rfl)))))))) (((hF237.2 4 rfl).trans ((hF185.2 4 rfl).trans ((hF155.2 4 rfl).trans ((hF129.2 4 rfl).trans (((congrFun eA109 4).trans (uA_ne (by decide))).trans ((hF33.2 4 rfl).trans (hFx.2 4 rfl)))))))) i_LT) (show G232 3 = li from ((hF237.1 3 rfl).trans ((hF185.1 3 rfl).trans ((hF155.1 3 rfl).trans ((hF129.1 3 rfl).trans ((hF33.1 3 rfl).trans ((hFx.1 3 rfl).trans (e_li)))))))) (show A233 4 (ln2_24).toNat = A 4 (ln2_24).toNat from (congrFun ((hF237.2 4 rfl).trans ((hF185.2 4 rfl).trans ((hF155.2 4 rfl).trans ((hF129.2 4 rfl).trans (((congrFun eA109 4).trans (uA_ne (by decide))).trans ((hF33.2 4 rfl).trans (hFx.2 4 rfl))))))) _)) (show A233 3 (ln2_234).toNat = A 3 (ln2_234).toNat from (congrFun ((hF237.2 3 rfl).trans ((hF185.2 3 rfl).trans ((hF155.2 3 rfl).trans ((hF129.2 3 rfl).trans (((congrFun eA109 3).trans (uA_ne (by decide))).trans ((hF33.2 3 rfl).trans (hFx.2 3 rfl))))))) _)) (show ln2_234 = ln2_24 + 1 by omega) (by omega) hh
                  refine jx_ld (pc' := 328) (l' := L) (st' := [.ref 66]) rfl (jl_aloadn gL_0) ?_
                  refine jx_ld (pc' := 329) (l' := L) (st' := [.int (i32 (p)), .ref 66]) rfl (jl_iloadn gL_1) ?_
                  refine jx_vr (pc' := 332) (as := [.int (i32 (p))]) (st := []) rfl rfl rfl rfl ⟨rfl, rfl, Nat.le_of_ble_eq_true rfl⟩ rfl rfl (c_show (dd := d) (hd := by omega) (hW := hW236) (s := p) (vi := vi) (e_vi := show G232 29 = vi from ((hF237.1 29 rfl).trans ((hF185.1 29 rfl).trans ((hF155.1 29 rfl).trans (hF129.1 29 rfl)))))  (h_s := ⟨(Int.le_trans (by decide : (-2147483648 : Int) ≤ -2147483648) rx_p.1), (Int.le_trans rx_p.2 (by decide : (2147483647 : Int) ≤ 2147483647))⟩)  (p_0 := by omega) (p_1 := by omega)) (fun o V' hq => ?_)
                  obtain ⟨G258, A259, vi2_260, sv2_261, rfl, rfl, hW262, hF263, hQ264, e265, e266, p267, p268, -⟩ := hq
                  have hF270 := Fr_tr hF241 hF263 (Fr_sub (by decide)) (Fr_sub (by decide))
                  have hP271 := Pf_f hP242 hF263 (by decide)
                  have hS272 := Fx_f hS243 hF263 (by decide)
                  have hV273 := Fx_tr hV244 hQ264 (by omega)
                  have hK274 := Fx_f hK245 hF263 (by decide)
                  have sf275 : wM A259 (sy + 1) (many) := wM_fx (Sg_fr (sb := sy + 1 + many) hF263 (by decide)) (by omega) (by omega) sf246
                  have sf276 : wP A259 (sy2_28) pb (18) (Vd Vs (sy + 1) sy1) (r23) (nd) (nd2_27) (sy1) (sy2_28) := wP_ag (Sg_fr hF263 (by decide)) (Qg_fr hF263 (by decide)) (by omega) (by omega) (Ax_ag (Ag_fr hF263 (by decide))) sf247
                  have sf277 : NX A259 (r23) := NX_ag (by omega) (Ag_fr hF263 (by decide)) sf248
                  have bvi2_260 : (0 : Int) ≤ vi2_260 ∧ vi2_260 ≤ 202 := e265 ▸ hW262.1 29
                  have bsv2_261 : (0 : Int) ≤ sv2_261 ∧ sv2_261 ≤ 201 := e266 ▸ hW262.2 14 _
                  refine .inl ⟨rfl, ?_⟩
                  refine jx_ld (pc' := 333) (l' := L) (st' := [.ref 66]) rfl (jl_aloadn gL_0) ?_
                  refine jx_ar (pc' := 334) (st' := [.ref 66, .ref 66]) rfl rfl rfl rfl ?_
                  refine jr_get (pc' := 337) (i := 46) (v := .int (i32 (pc0))) rfl rfl (by decide) (rFv_eq (by decide) (show G258 46 = pc0 from ((hF263.1 46 rfl).trans ((hF237.1 46 rfl).trans ((hF185.1 46 rfl).trans ((hF155.1 46 rfl).trans ((hF129.1 46 rfl).trans ((hF33.1 46 rfl).trans (fx_46))))))))) rfl ?_
                  refine jx_ar (pc' := 338) (st' := [.int (i32 (1)), .int (i32 (pc0)), .ref 66]) rfl rfl rfl rfl ?_
                  refine jx_add (pc' := 339) rfl rfl ?_
                  refine jr_put (pc' := 342) (i := 46) (z := (pc0 + 1)) rfl rfl (by decide) rfl rfl rfl rfl rfl rfl ?_
                  have hW278 : Wk (uG G258 46 ((pc0 + 1))) A259 := Wk_g hW262 (show (0 : Int) ≤ (pc0 + 1) by omega) (show (pc0 + 1) ≤ (24 : Int) by omega)
                  have hF279 := Fr_g (z := (pc0 + 1)) (i := 46) hF270 (by decide)
                  refine jx_rt (v := none) rfl rfl rfl rfl rfl rfl ?_
                  exact ⟨_, _, ln2_234, at2_181, fk2_235, nd2_27, sy2_28, na2_29, vi2_260, A 3 (ln2_234).toNat, (pc0 + 1), rfl, rfl, hW278, hF279, hP271, hS272, hV273, hK274, ((hF263.1 9 rfl).trans (e238)), ((hF263.1 10 rfl).trans ((hF237.1 10 rfl).trans (e186))), ((hF263.1 16 rfl).trans (e239)), ((hF263.1 31 rfl).trans ((hF237.1 31 rfl).trans ((hF185.1 31 rfl).trans ((hF155.1 31 rfl).trans ((hF129.1 31 rfl).trans (e41)))))), ((hF263.1 19 rfl).trans ((hF237.1 19 rfl).trans ((hF185.1 19 rfl).trans ((hF155.1 19 rfl).trans ((hF129.1 19 rfl).trans (e42)))))), ((hF263.1 28 rfl).trans ((hF237.1 28 rfl).trans ((hF185.1 28 rfl).trans ((hF155.1 28 rfl).trans ((hF129.1 28 rfl).trans (e43)))))), (e265), (congrFun ((hF263.2 3 rfl).trans ((hF237.2 3 rfl).trans ((hF185.2 3 rfl).trans ((hF155.2 3 rfl).trans ((hF129.2 3 rfl).trans (((congrFun eA109 3).trans (uA_ne (by decide))).trans ((hF33.2 3 rfl).trans (hFx.2 3 rfl)))))))) _), rfl, by omega, by omega, by omega, by omega, by first | exact Or.inr ((⟨by omega, by omega, by omega, by omega, by omega, by omega, by omega, by omega, (wQ_mk (m := many) (pb := pb) (by omega) (by omega) (wQ_fx hP271 hS272 (Fx_su hK274 (by omega)) p_8) (by omega) (by omega) (by omega) (by omega) (by omega) ((show A259 7 (sy).toNat = kp1 from (congrFun ((hF263.2 7 rfl).trans ((hF237.2 7 rfl).trans ((hF185.2 7 rfl).trans ((hF155.2 7 rfl).trans ((hF129.2 7 rfl).trans ((congrFun eA109 7).trans (uA_ne (by decide)))))))) _).trans (k61)).trans (by omega : kp1 = 14)) ((show A259 12 (sy).toNat = np1 from (congrFun ((hF263.2 12 rfl).trans ((hF237.2 12 rfl).trans ((hF185.2 12 rfl).trans ((hF155.2 12 rfl).trans ((hF129.2 12 rfl).trans ((congrFun eA109 12).trans (uA_ne (by decide)))))))) _).trans (k62)).trans (by omega : np1 = pc0)) ((show A259 29 (pc0).toNat = pp1 from (congrFun ((hF263.2 29 rfl).trans ((hF237.2 29 rfl).trans ((hF185.2 29 rfl).trans ((hF155.2 29 rfl).trans ((hF129.2 29 rfl).trans (((congrFun eA109 29).trans (uA_ne (by decide))).trans (hF33.2 29 rfl))))))) _).trans (ex_pp1)).trans (by omega : pp1 = sy + 1)) ((show A259 30 (pc0).toNat = mp1 from (congrFun ((hF263.2 30 rfl).trans ((hF237.2 30 rfl).trans ((hF185.2 30 rfl).trans ((hF155.2 30 rfl).trans ((hF129.2 30 rfl).trans (((congrFun eA109 30).trans (uA_ne (by decide))).trans (hF33.2 30 rfl))))))) _).trans (ex_mp1)).trans (by omega : mp1 = many)) (show A259 31 (pc0).toNat = r23 from (congrFun ((hF263.2 31 rfl).trans ((hF237.2 31 rfl).trans ((hF185.2 31 rfl).trans ((hF155.2 31 rfl).trans (hF129.2 31 rfl))))) _).trans (q112)) sf275 (VT_fx hS272 (by omega) p_9) (by omega) sf276), (SV_sw (SV_show (w := sy2_28) i_SV e_vi (show (uG G258 46 ((pc0 + 1))) 29 = vi2_260 from (e265)) (by omega) hV273 ((show A259 14 (vi).toNat = sv2_261 from (e266)).trans (by omega : sv2_261 = sy)) (by omega) (by omega) (by omega) (by omega)) (show (uG G258 46 ((pc0 + 1))) 29 = vi2_260 from (e265))), (PQ_proc (s1 := sy2_28) i_PQ hS272 (by omega) (by omega) (Fx_su hK274 (by omega)) (by omega) (by omega) (by omega) (((show A259 12 (sy).toNat = np1 from (congrFun ((hF263.2 12 rfl).trans ((hF237.2 12 rfl).trans ((hF185.2 12 rfl).trans ((hF155.2 12 rfl).trans ((hF129.2 12 rfl).trans ((congrFun eA109 12).trans (uA_ne (by decide)))))))) _).trans (k62)).trans (by omega : np1 = pc0)).trans (by omega)) (by rw [show pb = pc0 by omega, ((show A259 30 (pc0).toNat = mp1 from (congrFun ((hF263.2 30 rfl).trans ((hF237.2 30 rfl).trans ((hF185.2 30 rfl).trans ((hF155.2 30 rfl).trans ((hF129.2 30 rfl).trans (((congrFun eA109 30).trans (uA_ne (by decide))).trans (hF33.2 30 rfl))))))) _).trans (ex_mp1)).trans (by omega : mp1 = many))]; omega) (by rw [show pb = pc0 by omega, ((show A259 30 (pc0).toNat = mp1 from (congrFun ((hF263.2 30 rfl).trans ((hF237.2 30 rfl).trans ((hF185.2 30 rfl).trans ((hF155.2 30 rfl).trans ((hF129.2 30 rfl).trans (((congrFun eA109 30).trans (uA_ne (by decide))).trans (hF33.2 30 rfl))))))) _).trans (ex_mp1)).trans (by omega : mp1 = many))]; omega) (by rw [show pb = pc0 by omega]; exact ((show A259 29 (pc0).toNat = pp1 from (congrFun ((hF263.2 29 rfl).trans ((hF237.2 29 rfl).trans ((hF185.2 29 rfl).trans ((hF155.2 29 rfl).trans ((hF129.2 29 rfl).trans (((congrFun eA109 29).trans (uA_ne (by decide))).trans (hF33.2 29 rfl))))))) _).trans (ex_pp1)).trans (by omega : pp1 = sy + 1))) (by rw [show pb = pc0 by omega, ((show A259 30 (pc0).toNat = mp1 from (congrFun ((hF263.2 30 rfl).trans ((hF237.2 30 rfl).trans ((hF185.2 30 rfl).trans ((hF155.2 30 rfl).trans ((hF129.2 30 rfl).trans (((congrFun eA109 30).trans (uA_ne (by decide))).trans (hF33.2 30 rfl))))))) _).trans (ex_mp1)).trans (by omega : mp1 = many))]; omega) (by rw [show pb = pc0 by omega, ((show A259 30 (pc0).toNat = mp1 from (congrFun ((hF263.2 30 rfl).trans ((hF237.2 30 rfl).trans ((hF185.2 30 rfl).trans ((hF155.2 30 rfl).trans ((hF129.2 30 rfl).trans (((congrFun eA109 30).trans (uA_ne (by decide))).trans (hF33.2 30 rfl))))))) _).trans (ex_mp1)).trans (by omega : mp1 = many))]; exact sf275) hvb), (VT_u (VT_fx hS272 (by omega) p_9) (by omega) (by omega) ((show A259 7 (sy).toNat = kp1 from (congrFun ((hF263.2 7 rfl).trans ((hF237.2 7 rfl).trans ((hF185.2 7 rfl).trans ((hF155.2 7 rfl).trans ((hF129.2 7 rfl).trans ((congrFun eA109 7).trans (uA_ne (by decide)))))))) _).trans (k61)).trans (by omega : kp1 = 14)))⟩))⟩
                · have _q : True := trivial
                  exact c_readProc_at_327p (X := X) (d := d) (Vs := Vs) (sb := sb) (pb := pb) (hvb := hvb) (c0 := c0) (c1 := c1) (G := G) (A := A) (T := T) (ln := ln) (li := li) (at0 := at0) (fk := fk) (nd := nd) (sy := sy) (na := na) (vi := vi) (le := le) (op0 := op0) (tk0 := tk0) (pc0 := pc0) (hd := hd) (hW := hW) (e_ln := e_ln) (e_li := e_li) (e_at0 := e_at0) (e_fk := e_fk) (e_nd := e_nd) (e_sy := e_sy) (e_na := e_na) (e_vi := e_vi) (e_le := e_le) (e_op0 := e_op0) (e_tk0 := e_tk0) (e_pc0 := e_pc0) (i_LT := i_LT) (i_SV := i_SV) (i_PQ := i_PQ) (p_0 := p_0) (p_1 := p_1) (p_2 := p_2) (p_3 := p_3) (p_4 := p_4) (p_5 := p_5) (p_6 := p_6) (p_7 := p_7) (p_8 := p_8) (p_9 := p_9) L G232 A233 (p) (ln2_234) (fk2_235) (sy2_28) (na2_29) gL_0 gL_1 hW236 hF241 hP242 hS243 hV244 hK245 ((e238)) ((e239)) (((hF237.1 19 rfl).trans ((hF185.1 19 rfl).trans ((hF155.1 19 rfl).trans ((hF129.1 19 rfl).trans (e42)))))) (((hF237.1 28 rfl).trans ((hF185.1 28 rfl).trans ((hF155.1 28 rfl).trans ((hF129.1 28 rfl).trans (e43)))))) (((hF237.1 29 rfl).trans ((hF185.1 29 rfl).trans ((hF155.1 29 rfl).trans (hF129.1 29 rfl))))) (((hF237.1 46 rfl).trans ((hF185.1 46 rfl).trans ((hF155.1 46 rfl).trans ((hF129.1 46 rfl).trans ((hF33.1 46 rfl).trans (fx_46))))))) (by omega) (by omega) (by omega) (by omega) (by omega) (by omega) (by omega) (by omega)
            · have _q : True := trivial
              refine jx_vr (pc' := 323) (as := [.int (i32 (0))]) (st := []) rfl rfl rfl rfl ⟨rfl, rfl, Nat.le_of_ble_eq_true rfl⟩ rfl rfl (c_need (dd := d) (hd := by omega) (hW := hW154) (g := 0) (ln := ln2_24) (e_ln := show G149 9 = ln2_24 from ((hF155.1 9 rfl).trans ((hF129.1 9 rfl).trans (e38)))) (le := A 4 (ln2_24).toNat) (e_le := show A150 4 (ln2_24).toNat = A 4 (ln2_24).toNat from (congrFun ((hF155.2 4 rfl).trans ((hF129.2 4 rfl).trans (((congrFun eA109 4).trans (uA_ne (by decide))).trans ((hF33.2 4 rfl).trans (hFx.2 4 rfl))))) _)) (at0 := at2_151) (e_at0 := show G149 10 = at2_151 from (e156)) (fk := fk2_127) (e_fk := show G149 16 = fk2_127 from ((hF155.1 16 rfl).trans (e131))) (tk0 := tk2_152) (e_tk0 := show G149 11 = tk2_152 from (e157))  (h_g := ⟨(by decide), (by decide)⟩)  (p_0 := by omega)) (fun o V' hq => ?_)
              obtain ⟨G280, A281, at2_282, tk2_283, fk2_284, rfl, rfl, hW285, hF286, e287, e288, e289, p290, p291, q292⟩ := hq
              have hF293 := Fr_tr hF164 hF286 (Fr_sub (by decide)) (Fr_sub (by decide))
              have hP294 := Pf_f hP165 hF286 (by decide)
              have hS295 := Fx_f hS166 hF286 (by decide)
              have hV296 := Fx_f hV167 hF286 (by decide)
              have hK297 := Fx_f hK168 hF286 (by decide)
              have sf298 : wM A281 (sy + 1) (many) := wM_fx (Sg_fr (sb := sy + 1 + many) hF286 (by decide)) (by omega) (by omega) sf169
              have sf299 : wP A281 (sy2_28) pb (18) (Vd Vs (sy + 1) sy1) (r23) (nd) (nd2_27) (sy1) (sy2_28) := wP_ag (Sg_fr hF286 (by decide)) (Qg_fr hF286 (by decide)) (by omega) (by omega) (Ax_ag (Ag_fr hF286 (by decide))) sf170
              have sf300 : NX A281 (r23) := NX_ag (by omega) (Ag_fr hF286 (by decide)) sf171
              have bat2_282 : (0 : Int) ≤ at2_282 ∧ at2_282 ≤ 3002 := e287 ▸ hW285.1 10
              have ztk2_283 := tz_b tk2_283
              have btk2_283 : (0 : Int) ≤ tk2_283 ∧ tk2_283 ≤ 5 := e288 ▸ hW285.1 11
              have bfk2_284 : (0 : Int) ≤ fk2_284 ∧ fk2_284 ≤ 6 := e289 ▸ hW285.1 16
              refine .inl ⟨rfl, ?_⟩
              rcases q292 with ⟨a301, a302, a303, a304⟩ | ⟨a305, a306, a307, a308⟩
              · have _q : True := trivial
                refine jx_ld (pc' := 324) (l' := L) (st' := [.ref 66]) rfl (jl_aloadn gL_0) ?_
                refine jx_vr (pc' := 327) (as := []) (st := []) rfl rfl rfl rfl ⟨rfl, rfl, Nat.le_of_ble_eq_true rfl⟩ rfl rfl (c_endLine (dd := d) (hd := by omega) (hW := hW285)  (ln := ln2_24) (e_ln := show G280 9 = ln2_24 from ((hF286.1 9 rfl).trans ((hF155.1 9 rfl).trans ((hF129.1 9 rfl).trans (e38))))) (li := li) (e_li := show G280 3 = li from ((hF286.1 3 rfl).trans ((hF155.1 3 rfl).trans ((hF129.1 3 rfl).trans ((hF33.1 3 rfl).trans ((hFx.1 3 rfl).trans (e_li))))))) (fk := fk2_284) (e_fk := show G280 16 = fk2_284 from (e289)) (tk0 := tk2_283) (e_tk0 := show G280 11 = tk2_283 from (e288))    (p_0 := by omega)) (fun o V' hq => ?_)
                obtain ⟨G309, A310, ln2_311, fk2_312, rfl, rfl, hW313, hF314, e315, e316, q317⟩ := hq
                have hF318 := Fr_tr hF293 hF314 (Fr_sub (by decide)) (Fr_sub (by decide))
                have hP319 := Pf_f hP294 hF314 (by decide)
                have hS320 := Fx_f hS295 hF314 (by decide)
                have hV321 := Fx_f hV296 hF314 (by decide)
                have hK322 := Fx_f hK297 hF314 (by decide)
                have sf323 : wM A310 (sy + 1) (many) := wM_fx (Sg_fr (sb := sy + 1 + many) hF314 (by decide)) (by omega) (by omega) sf298
                have sf324 : wP A310 (sy2_28) pb (18) (Vd Vs (sy + 1) sy1) (r23) (nd) (nd2_27) (sy1) (sy2_28) := wP_ag (Sg_fr hF314 (by decide)) (Qg_fr hF314 (by decide)) (by omega) (by omega) (Ax_ag (Ag_fr hF314 (by decide))) sf299
                have sf325 : NX A310 (r23) := NX_ag (by omega) (Ag_fr hF314 (by decide)) sf300
                have bln2_311 : (0 : Int) ≤ ln2_311 ∧ ln2_311 ≤ 3000 := e315 ▸ hW313.1 9
                have bfk2_312 : (0 : Int) ≤ fk2_312 ∧ fk2_312 ≤ 6 := e316 ▸ hW313.1 16
                refine .inl ⟨rfl, ?_⟩
                rcases q317 with ⟨a326, a327, a328, a329, a330⟩ | ⟨a331, a332⟩
                · have _q : True := trivial
                  exfalso
                  omega
                · have _q : True := trivial
                  exact c_readProc_at_327p (X := X) (d := d) (Vs := Vs) (sb := sb) (pb := pb) (hvb := hvb) (c0 := c0) (c1 := c1) (G := G) (A := A) (T := T) (ln := ln) (li := li) (at0 := at0) (fk := fk) (nd := nd) (sy := sy) (na := na) (vi := vi) (le := le) (op0 := op0) (tk0 := tk0) (pc0 := pc0) (hd := hd) (hW := hW) (e_ln := e_ln) (e_li := e_li) (e_at0 := e_at0) (e_fk := e_fk) (e_nd := e_nd) (e_sy := e_sy) (e_na := e_na) (e_vi := e_vi) (e_le := e_le) (e_op0 := e_op0) (e_tk0 := e_tk0) (e_pc0 := e_pc0) (i_LT := i_LT) (i_SV := i_SV) (i_PQ := i_PQ) (p_0 := p_0) (p_1 := p_1) (p_2 := p_2) (p_3 := p_3) (p_4 := p_4) (p_5 := p_5) (p_6 := p_6) (p_7 := p_7) (p_8 := p_8) (p_9 := p_9) L G309 A310 (p) (ln2_311) (fk2_312) (sy2_28) (na2_29) gL_0 gL_1 hW313 hF318 hP319 hS320 hV321 hK322 ((e315)) ((e316)) (((hF314.1 19 rfl).trans ((hF286.1 19 rfl).trans ((hF155.1 19 rfl).trans ((hF129.1 19 rfl).trans (e42)))))) (((hF314.1 28 rfl).trans ((hF286.1 28 rfl).trans ((hF155.1 28 rfl).trans ((hF129.1 28 rfl).trans (e43)))))) (((hF314.1 29 rfl).trans ((hF286.1 29 rfl).trans ((hF155.1 29 rfl).trans (hF129.1 29 rfl))))) (((hF314.1 46 rfl).trans ((hF286.1 46 rfl).trans ((hF155.1 46 rfl).trans ((hF129.1 46 rfl).trans ((hF33.1 46 rfl).trans (fx_46))))))) (by omega) (by omega) (by omega) (by omega) (by omega) (by omega) (by omega) (by omega)
              · have _q : True := trivial
                exfalso
                omega
        · have _q : True := trivial
          refine jx_if_eq (pc' := 309) (tg := 327) rfl rfl rfl (by decide) (by decide) (fun h333 => ?_) (fun h333 => ?_)
          · have _q := h333
            exact c_readProc_at_327p (X := X) (d := d) (Vs := Vs) (sb := sb) (pb := pb) (hvb := hvb) (c0 := c0) (c1 := c1) (G := G) (A := A) (T := T) (ln := ln) (li := li) (at0 := at0) (fk := fk) (nd := nd) (sy := sy) (na := na) (vi := vi) (le := le) (op0 := op0) (tk0 := tk0) (pc0 := pc0) (hd := hd) (hW := hW) (e_ln := e_ln) (e_li := e_li) (e_at0 := e_at0) (e_fk := e_fk) (e_nd := e_nd) (e_sy := e_sy) (e_na := e_na) (e_vi := e_vi) (e_le := e_le) (e_op0 := e_op0) (e_tk0 := e_tk0) (e_pc0 := e_pc0) (i_LT := i_LT) (i_SV := i_SV) (i_PQ := i_PQ) (p_0 := p_0) (p_1 := p_1) (p_2 := p_2) (p_3 := p_3) (p_4 := p_4) (p_5 := p_5) (p_6 := p_6) (p_7 := p_7) (p_8 := p_8) (p_9 := p_9) L G124 A125 (p) (ln2_24) (fk2_127) (sy2_28) (na2_29) gL_0 gL_1 hW128 hF133 hP134 hS135 hV136 hK137 (((hF129.1 9 rfl).trans (e38))) ((e131)) (((hF129.1 19 rfl).trans (e42))) (((hF129.1 28 rfl).trans (e43))) ((hF129.1 29 rfl)) (((hF129.1 46 rfl).trans ((hF33.1 46 rfl).trans (fx_46)))) (by omega) (by omega) (by omega) (by omega) (by omega) (by omega) (by omega) (by omega)
          · have _q := h333
            exact absurd h333 (by omega)
    · have _q := h20
      refine jx_ld (pc' := 260) (l' := L) (st' := [.ref 66]) rfl (jl_aloadn gL_0) ?_
      refine jx_ld (pc' := 261) (l' := L) (st' := [.ref 66, .ref 66]) rfl (jl_aloadn gL_0) ?_
      refine jr_get (pc' := 264) (i := 47) (v := .ref 96) rfl rfl (by decide) rfl rfl ?_
      refine jx_ld (pc' := 265) (l' := L) (st' := [.ref 66, .ref 96, .ref 66]) rfl (jl_aloadn gL_0) ?_
      refine jr_get (pc' := 268) (i := 46) (v := .int (i32 (pc0))) rfl rfl (by decide) (rFv_eq (by decide) (show Gx 46 = pc0 from (fx_46))) rfl ?_
      refine jr_ldv (pc' := 269) (i := 29) (m := 25) (z := pc0) (y := pp1) rfl (by decide) rfl (by decide) (Int.le_trans (by decide : (0 : Int) ≤ 0) b_pc0.1) (Int.lt_of_le_of_lt b_pc0.2 (by decide : (24 : Int) < ((25 : Nat) : Int))) rfl (show Ax 29 (pc0).toNat = pp1 from (ex_pp1)) ?_
      refine jx_ld (pc' := 271) (l' := L) (st' := [.int (i32 (kk)), .int (i32 (pp1)), .ref 66]) rfl (jl_iload gL_5) ?_
      refine jx_add (pc' := 272) rfl rfl ?_
      refine jx_vr (pc' := 275) (as := [.int (i32 ((pp1 + kk)))]) (st := []) rfl rfl rfl rfl ⟨rfl, rfl, Nat.le_of_ble_eq_true rfl⟩ rfl rfl (c_show (dd := d) (hd := by omega) (hW := hWx) (s := (pp1 + kk)) (vi := vi1) (e_vi := show Gx 29 = vi1 from (ex_vi1))  (h_s := ⟨(by omega), (by omega)⟩)  (p_0 := by omega) (p_1 := by omega)) (fun o V' hq => ?_)
      obtain ⟨G334, A335, vi2_336, sv2_337, rfl, rfl, hW338, hF339, hQ340, e341, e342, p343, p344, -⟩ := hq
      have hF346 := Fr_tr hFx hF339 (Fr_sub (by decide)) (Fr_sub (by decide))
      have hP347 := Pf_f hPx hF339 (by decide)
      have hS348 := Fx_f hSx hF339 (by decide)
      have hV349 := Fx_tr hVx hQ340 (by omega)
      have hK350 := Fx_f hKx hF339 (by decide)
      have sf351 : wM A335 (sy + 1) (many) := wM_fx (Sg_fr (sb := sy + 1 + many) hF339 (by decide)) (by omega) (by omega) iv_10
      have sf352 : DS A335 (vi) (vi1) (sy + 1) (sy1) := DS_fx hQ340 (by omega) iv_11
      have bvi2_336 : (0 : Int) ≤ vi2_336 ∧ vi2_336 ≤ 202 := e341 ▸ hW338.1 29
      have bsv2_337 : (0 : Int) ≤ sv2_337 ∧ sv2_337 ≤ 201 := e342 ▸ hW338.2 14 _
      refine .inl ⟨rfl, ?_⟩
      refine jx_inc (pc' := 278) (l' := jSto1 L 5 (.int (i32 ((kk + (1)))))) (x := kk) rfl gL_5 (by decide) rfl rfl ?_
      obtain ⟨L353, eL353⟩ : ∃ q, q = jSto1 L 5 (.int (i32 ((kk + (1))))) := ⟨_, rfl⟩
      rw [← eL353]
      have gL353_0 : jGet L353 0 = some (.ref 66) := eL353 ▸ jg_ne (by decide) gL_0 rfl
      have gL353_4 : jGet L353 4 = some (.int (i32 (vi))) := eL353 ▸ jg_ne (by decide) gL_4 rfl
      have gL353_1 : jGet L353 1 = some (.int (i32 (p))) := eL353 ▸ jg_ne (by decide) gL_1 rfl
      have gL353_2 : jGet L353 2 = some (.int (i32 (many))) := eL353 ▸ jg_ne (by decide) gL_2 rfl
      have gL353_5 : jGet L353 5 = some (.int (i32 ((kk + (1))))) := eL353 ▸ jg_eq
      refine jx_go (tg := 253) rfl rfl ?_
      exact ih253 _ (by omega) L353 G334 A335 (p) (many) ((kk + (1))) (ln1) (at1) (fk1) (sy1) (na1) (vi2_336) (pp1) (mp1) (kp1) (np1) (lf1) rfl gL353_0 gL353_4 gL353_1 gL353_2 gL353_5 hW338 hF346 hP347 hS348 hV349 hK350 (((hF339.1 9 rfl).trans (ex_ln1))) (((hF339.1 10 rfl).trans (ex_at1))) (((hF339.1 16 rfl).trans (ex_fk1))) (((hF339.1 19 rfl).trans (ex_sy1))) (((hF339.1 28 rfl).trans (ex_na1))) ((e341)) ((congrFun (hF339.2 29 rfl) _).trans (ex_pp1)) ((congrFun (hF339.2 30 rfl) _).trans (ex_mp1)) ((congrFun (hF339.2 7 rfl) _).trans (ex_kp1)) ((congrFun (hF339.2 12 rfl) _).trans (ex_np1)) ((congrFun (hF339.2 3 rfl) _).trans (ex_lf1)) (((hF339.1 46 rfl).trans (fx_46))) (((hF339.1 31 rfl).trans (fx_31))) (by omega) (by omega) (by omega) (by omega) (by omega) (by omega) (by omega) (by omega) (by omega) (by omega) (by omega) (by omega) (by omega) (sf351) ((DS_add sf352 (show A335 14 (vi1).toNat = sv2_337 from (e342)) (by omega) (by omega) (by omega) (by omega))) (by omega) (by omega) (by omega) (by omega) (by omega)
set_option maxRecDepth 20000 in
set_option maxHeartbeats 4000000 in
theorem c_readProc_at_212p {X : jX} {d : Nat} {Vs : Nat → Prop} {sb pb : Int} (hvb : VB Vs sb) {c0 c1 : jC} {G : Nat → Int} {A : Nat → Nat → Int} {T : jH} {ln li at0 fk nd sy na vi le op0 tk0 pc0 : Int} (hd : 8 * 18 + 81 ≤ d + 1) (hW : Wk G A) (e_ln : G 9 = ln) (e_li : G 3 = li) (e_at0 : G 10 = at0) (e_fk : G 16 = fk) (e_nd : G 31 = nd) (e_sy : G 19 = sy) (e_na : G 28 = na) (e_vi : G 29 = vi) (e_le : A 4 (ln).toNat = le) (e_op0 : G 15 = op0) (e_tk0 : G 11 = tk0) (e_pc0 : G 46 = pc0) (i_LT : LT G A) (i_SV : SV Vs sb G A) (i_PQ : PQ Vs sb pb G A) (p_0 : fk = 0) (p_1 : ln < li) (p_2 : at0 ≤ le) (p_3 : nd ≤ 2 * at0 - tz tk0 + 30) (p_4 : sy ≤ na + 2) (p_5 : vi ≤ sy) (p_6 : sb ≤ sy) (p_7 : pb = pc0) (p_8 : wQ A (pc0).toNat (nd) (sy)) (p_9 : VT (Vs) A (sy)) : ∀ (L : jL) (Gx : Nat → Int) (Ax : Nat → Nat → Int) (p many at1 fk1 sy1 na1 : Int), jGet L 0 = some (.ref 66) → jGet L 1 = some (.int (i32 p)) → jGet L 2 = some (.int (i32 many)) → Wk Gx Ax → Fr [9, 10, 11, 12, 13, 14, 15, 16, 17, 18, 19, 28, 29, 31, 46] [6, 7, 8, 9, 10, 11, 12, 14, 15, 16, 17, 18, 19, 20, 21, 22, 23, 24, 28, 29, 30, 31] G A Gx Ax → Pf nd A Ax → Fx sr (sy) A Ax → Fx [14] (vi) A Ax → Fx [29, 30, 31] (pc0) A Ax → Gx 10 = at1 → Gx 16 = fk1 → Gx 19 = sy1 → Gx 28 = na1 → Gx 9 = ln → Gx 29 = vi → Gx 46 = pc0 → Gx 31 = nd → ((-2147483648 : Int) ≤ p ∧ p ≤ 2147483647) → ((-2147483648 : Int) ≤ many ∧ many ≤ 2147483647) → (1 ≤ fk1) → (at0 ≤ at1) → (at1 ≤ le) → (sy ≤ sy1) → (sy1 ≤ na1 + 2) → (0 ≤ many ∧ many ≤ 6) → (pc0 ≤ 23) → wj X d jm308 (212, L, [], rV c0 c1 Gx Ax T) (fun o V' => ∃ (G' : Nat → Int) (A' : Nat → Nat → Int) (ln2 : Int) (at2 : Int) (fk2 : Int) (nd2 : Int) (sy2 : Int) (na2 : Int) (vi2 : Int) (lf2 : Int) (pc2 : Int), V' = rV c0 c1 G' A' T ∧ o = .inl none ∧ Wk G' A' ∧ Fr [9, 10, 11, 12, 13, 14, 15, 16, 17, 18, 19, 28, 29, 31, 46] [6, 7, 8, 9, 10, 11, 12, 14, 15, 16, 17, 18, 19, 20, 21, 22, 23, 24, 28, 29, 30, 31] G A G' A' ∧ Pf nd A A' ∧ Fx sr (sy) A A' ∧ Fx [14] (vi) A A' ∧ Fx [29, 30, 31] (pc0) A A' ∧ G' 9 = ln2 ∧ G' 10 = at2 ∧ G' 16 = fk2 ∧ G' 31 = nd2 ∧ G' 19 = sy2 ∧ G' 28 = na2 ∧ G' 29 = vi2 ∧ A' 3 (ln2).toNat = lf2 ∧ G' 46 = pc2 ∧ (sy2 ≤ na2 + 2) ∧ (vi2 ≤ sy2) ∧ (ln ≤ ln2) ∧ (ln2 ≤ li) ∧ (((1 ≤ fk2)) ∨ ((fk2 = 0) ∧ (ln < ln2) ∧ (at0 ≤ at2) ∧ (pc2 = pc0 + 1) ∧ (nd2 - nd ≤ 2 * at2 - (2 * at0 - tz tk0)) ∧ (at2 < lf2 ∨ li ≤ ln2) ∧ (vi2 = vi + 1) ∧ (sy < sy2) ∧ (wQ A' (pc2).toNat (nd2) (sy2)) ∧ (SW (Vu Vs sy) (sy2) (vi2) A') ∧ (PQ (Vu Vs sy) (sy2) (pc2) (fun _ => 0) A') ∧ (VT (Vu Vs sy) A' (sy2))))) := by
  have hF0 : Fr [9, 10, 11, 12, 13, 14, 15, 16, 17, 18, 19, 28, 29, 31, 46] [6, 7, 8, 9, 10, 11, 12, 14, 15, 16, 17, 18, 19, 20, 21, 22, 23, 24, 28, 29, 30, 31] G A G A := Fr_rf
  have hP0 : Pf nd A A := Pf_rf
  have hS0 : Fx sr (sy) A A := Fx_rf
  have hV0 : Fx [14] (vi) A A := Fx_rf
  have hK0 : Fx [29, 30, 31] (pc0) A A := Fx_rf
  have b_ln : (0 : Int) ≤ ln ∧ ln ≤ 3000 := e_ln ▸ hW.1 9
  have b_li : (0 : Int) ≤ li ∧ li ≤ 3000 := e_li ▸ hW.1 3
  have b_at0 : (0 : Int) ≤ at0 ∧ at0 ≤ 3002 := e_at0 ▸ hW.1 10
  have b_fk : (0 : Int) ≤ fk ∧ fk ≤ 6 := e_fk ▸ hW.1 16
  have b_nd : (0 : Int) ≤ nd ∧ nd ≤ 6999 := e_nd ▸ hW.1 31
  have b_sy : (0 : Int) ≤ sy ∧ sy ≤ 202 := e_sy ▸ hW.1 19
  have b_na : (0 : Int) ≤ na ∧ na ≤ 200 := e_na ▸ hW.1 28
  have b_vi : (0 : Int) ≤ vi ∧ vi ≤ 202 := e_vi ▸ hW.1 29
  have b_le : (0 : Int) ≤ le ∧ le ≤ 3000 := e_le ▸ hW.2 4 _
  have b_op0 : (-2147483648 : Int) ≤ op0 ∧ op0 ≤ 2147483647 := e_op0 ▸ hW.1 15
  have z_tk0 := tz_f tk0
  have b_tk0 : (0 : Int) ≤ tk0 ∧ tk0 ≤ 5 := e_tk0 ▸ hW.1 11
  have b_pc0 : (0 : Int) ≤ pc0 ∧ pc0 ≤ 24 := e_pc0 ▸ hW.1 46
  intro L Gx Ax p many at1 fk1 sy1 na1 gL_0 gL_1 gL_2 hWx hFx hPx hSx hVx hKx ex_at1 ex_fk1 ex_sy1 ex_na1 fx_9 fx_29 fx_46 fx_31 rx_p rx_many iv_0 iv_1 iv_2 iv_3 iv_4 iv_5 iv_6
  have b_at1 : (0 : Int) ≤ at1 ∧ at1 ≤ 3002 := ex_at1 ▸ hWx.1 10
  have b_fk1 : (0 : Int) ≤ fk1 ∧ fk1 ≤ 6 := ex_fk1 ▸ hWx.1 16
  have b_sy1 : (0 : Int) ≤ sy1 ∧ sy1 ≤ 202 := ex_sy1 ▸ hWx.1 19
  have b_na1 : (0 : Int) ≤ na1 ∧ na1 ≤ 200 := ex_na1 ▸ hWx.1 28
  refine jx_ld (pc' := 213) (l' := L) (st' := [.ref 66]) rfl (jl_aloadn gL_0) ?_
  refine jr_get (pc' := 216) (i := 48) (v := .ref 97) rfl rfl (by decide) rfl rfl ?_
  refine jx_ld (pc' := 217) (l' := L) (st' := [.ref 66, .ref 97]) rfl (jl_aloadn gL_0) ?_
  refine jr_get (pc' := 220) (i := 46) (v := .int (i32 (pc0))) rfl rfl (by decide) (rFv_eq (by decide) (show Gx 46 = pc0 from (fx_46))) rfl ?_
  refine jx_ld (pc' := 221) (l' := L) (st' := [.int (i32 (many)), .int (i32 (pc0)), .ref 97]) rfl (jl_iloadn gL_2) ?_
  refine jr_st (pc' := 222) (i := 30) (m := 25) (z := pc0) (y := many) rfl (by decide) rfl (by decide) (by omega) (by omega) rfl ?_
  have hW355 : Wk Gx (uA Ax 30 (pc0).toNat (many)) := Wk_a hWx (show (0 : Int) ≤ many by omega) (show many ≤ (6 : Int) by omega)
  have hF356 := Fr_a (z := many) (k := 30) (n := (pc0).toNat) hFx (by decide)
  obtain ⟨A354, eA354⟩ : ∃ q, q = uA Ax 30 (pc0).toNat (many) := ⟨_, rfl⟩
  rw [← eA354]
  rw [← eA354] at hW355 hF356
  have q357 : A354 30 (pc0).toNat = many := by rw [eA354]; exact uA_eq
  have hP358 : Pf nd A A354 := eA354 ▸ Pf_n hPx rfl
  have hS359 : Fx sr (sy) A A354 := eA354 ▸ Fx_n hSx rfl
  have hV360 : Fx [14] (vi) A A354 := eA354 ▸ Fx_n hVx rfl
  have hK361 : Fx [29, 30, 31] (pc0) A A354 := eA354 ▸ Fx_a hKx (z := pc0) (by omega) (by omega)
  refine jx_ld (pc' := 223) (l' := L) (st' := [.ref 66]) rfl (jl_aloadn gL_0) ?_
  refine jx_ld (pc' := 224) (l' := L) (st' := [.ref 66, .ref 66]) rfl (jl_aloadn gL_0) ?_
  refine jx_ar (pc' := 226) (st' := [.int (i32 (41)), .ref 66, .ref 66]) rfl rfl rfl rfl ?_
  have b362 : (0 : Int) ≤ Gx 11 ∧ Gx 11 ≤ 5 := hWx.1 11
  have b363 : (-2147483648 : Int) ≤ Gx 13 ∧ Gx 13 ≤ 2147483647 := hWx.1 13
  refine jx_vr (pc' := 229) (as := [.int (i32 (41))]) (st := [.ref 66]) rfl rfl rfl rfl ⟨rfl, rfl, Nat.le_of_ble_eq_true rfl⟩ rfl rfl (c_is (dd := d) (hd := by omega) (hW := hW355) (k := 41) (tk := Gx 11) (e_tk := show Gx 11 = Gx 11 from rfl) (tn := Gx 13) (e_tn := show Gx 13 = Gx 13 from rfl)  (h_k := ⟨(by decide), (by decide)⟩)  ) (fun o V' hq => ?_)
  obtain ⟨r364, rfl, rfl, b365, q366⟩ := hq
  refine .inr ⟨_, rfl, ?_⟩
  rcases q366 with ⟨rfl, a367, a368, a369⟩ | rfl
  · have _q : True := trivial
    refine jx_vr (pc' := 232) (as := [.int (i32 (1))]) (st := []) rfl rfl rfl rfl ⟨rfl, rfl, Nat.le_of_ble_eq_true rfl⟩ rfl rfl (c_need (dd := d) (hd := by omega) (hW := hW355) (g := 1) (ln := ln) (e_ln := show Gx 9 = ln from (fx_9)) (le := le) (e_le := show A354 4 (ln).toNat = le from (congrFun (((congrFun eA354 4).trans (uA_ne (by decide))).trans (hFx.2 4 rfl)) _).trans (e_le)) (at0 := at1) (e_at0 := show Gx 10 = at1 from (ex_at1)) (fk := fk1) (e_fk := show Gx 16 = fk1 from (ex_fk1)) (tk0 := Gx 11) (e_tk0 := show Gx 11 = Gx 11 from rfl)  (h_g := ⟨(by decide), (by decide)⟩)  (p_0 := by omega)) (fun o V' hq => ?_)
    obtain ⟨G370, A371, at2_372, tk2_373, fk2_374, rfl, rfl, hW375, hF376, e377, e378, e379, p380, p381, q382⟩ := hq
    have hF383 := Fr_tr hF356 hF376 (Fr_sub (by decide)) (Fr_sub (by decide))
    have hP384 := Pf_f hP358 hF376 (by decide)
    have hS385 := Fx_f hS359 hF376 (by decide)
    have hV386 := Fx_f hV360 hF376 (by decide)
    have hK387 := Fx_f hK361 hF376 (by decide)
    have bat2_372 : (0 : Int) ≤ at2_372 ∧ at2_372 ≤ 3002 := e377 ▸ hW375.1 10
    have ztk2_373 := tz_b tk2_373
    have btk2_373 : (0 : Int) ≤ tk2_373 ∧ tk2_373 ≤ 5 := e378 ▸ hW375.1 11
    have bfk2_374 : (0 : Int) ≤ fk2_374 ∧ fk2_374 ≤ 6 := e379 ▸ hW375.1 16
    refine .inl ⟨rfl, ?_⟩
    rcases q382 with ⟨a388, a389, a390, a391⟩ | ⟨a392, a393, a394, a395⟩
    · have _q : True := trivial
      refine jx_ld (pc' := 233) (l' := L) (st' := [.ref 66]) rfl (jl_aloadn gL_0) ?_
      refine jx_vr (pc' := 236) (as := []) (st := []) rfl rfl rfl rfl ⟨rfl, rfl, Nat.le_of_ble_eq_true rfl⟩ rfl rfl (c_endLine (dd := d) (hd := by omega) (hW := hW375)  (ln := ln) (e_ln := show G370 9 = ln from ((hF376.1 9 rfl).trans (fx_9))) (li := li) (e_li := show G370 3 = li from ((hF376.1 3 rfl).trans ((hFx.1 3 rfl).trans (e_li)))) (fk := fk2_374) (e_fk := show G370 16 = fk2_374 from (e379)) (tk0 := tk2_373) (e_tk0 := show G370 11 = tk2_373 from (e378))    (p_0 := by omega)) (fun o V' hq => ?_)
      obtain ⟨G396, A397, ln2_398, fk2_399, rfl, rfl, hW400, hF401, e402, e403, q404⟩ := hq
      have hF405 := Fr_tr hF383 hF401 (Fr_sub (by decide)) (Fr_sub (by decide))
      have hP406 := Pf_f hP384 hF401 (by decide)
      have hS407 := Fx_f hS385 hF401 (by decide)
      have hV408 := Fx_f hV386 hF401 (by decide)
      have hK409 := Fx_f hK387 hF401 (by decide)
      have bln2_398 : (0 : Int) ≤ ln2_398 ∧ ln2_398 ≤ 3000 := e402 ▸ hW400.1 9
      have bfk2_399 : (0 : Int) ≤ fk2_399 ∧ fk2_399 ≤ 6 := e403 ▸ hW400.1 16
      refine .inl ⟨rfl, ?_⟩
      rcases q404 with ⟨a410, a411, a412, a413, a414⟩ | ⟨a415, a416⟩
      · have _q : True := trivial
        exfalso
        omega
      · have _q : True := trivial
        refine jx_ld (pc' := 237) (l' := L) (st' := [.ref 66]) rfl (jl_aloadn gL_0) ?_
        refine jx_vr (pc' := 240) (as := []) (st := []) rfl rfl rfl rfl ⟨rfl, rfl, Nat.le_of_ble_eq_true rfl⟩ rfl rfl (c_bad (dd := d) (hd := by omega) (hW := hW400)  (fk := fk2_399) (e_fk := show G396 16 = fk2_399 from (e403))    ) (fun o V' hq => ?_)
        obtain ⟨r417, rfl, rfl, b418, q419⟩ := hq
        refine .inr ⟨_, rfl, ?_⟩
        rcases q419 with ⟨rfl, a420⟩ | ⟨rfl, a421⟩
        · have _q : True := trivial
          refine jx_if_eq (pc' := 243) (tg := 244) rfl rfl rfl (by decide) (by decide) (fun h422 => ?_) (fun h422 => ?_)
          · have _q := h422
            exact absurd h422 (by omega)
          · have _q := h422
            refine jx_rt (v := none) rfl rfl rfl rfl rfl rfl ?_
            exact ⟨_, _, ln2_398, at2_372, fk2_399, nd, sy1, na1, vi, A 3 (ln2_398).toNat, pc0, rfl, rfl, hW400, hF405, hP406, hS407, hV408, hK409, (e402), ((hF401.1 10 rfl).trans (e377)), (e403), ((hF401.1 31 rfl).trans ((hF376.1 31 rfl).trans (fx_31))), ((hF401.1 19 rfl).trans ((hF376.1 19 rfl).trans (ex_sy1))), ((hF401.1 28 rfl).trans ((hF376.1 28 rfl).trans (ex_na1))), ((hF401.1 29 rfl).trans ((hF376.1 29 rfl).trans (fx_29))), (congrFun ((hF401.2 3 rfl).trans ((hF376.2 3 rfl).trans (((congrFun eA354 3).trans (uA_ne (by decide))).trans (hFx.2 3 rfl)))) _), ((hF401.1 46 rfl).trans ((hF376.1 46 rfl).trans (fx_46))), by omega, by omega, by omega, by omega, by first | exact Or.inl (by omega)⟩
        · have _q : True := trivial
          exfalso
          omega
    · have _q : True := trivial
      exfalso
      omega
  · have _q : True := trivial
    refine jx_vr (pc' := 232) (as := [.int (i32 (0))]) (st := []) rfl rfl rfl rfl ⟨rfl, rfl, Nat.le_of_ble_eq_true rfl⟩ rfl rfl (c_need (dd := d) (hd := by omega) (hW := hW355) (g := 0) (ln := ln) (e_ln := show Gx 9 = ln from (fx_9)) (le := le) (e_le := show A354 4 (ln).toNat = le from (congrFun (((congrFun eA354 4).trans (uA_ne (by decide))).trans (hFx.2 4 rfl)) _).trans (e_le)) (at0 := at1) (e_at0 := show Gx 10 = at1 from (ex_at1)) (fk := fk1) (e_fk := show Gx 16 = fk1 from (ex_fk1)) (tk0 := Gx 11) (e_tk0 := show Gx 11 = Gx 11 from rfl)  (h_g := ⟨(by decide), (by decide)⟩)  (p_0 := by omega)) (fun o V' hq => ?_)
    obtain ⟨G423, A424, at2_425, tk2_426, fk2_427, rfl, rfl, hW428, hF429, e430, e431, e432, p433, p434, q435⟩ := hq
    have hF436 := Fr_tr hF356 hF429 (Fr_sub (by decide)) (Fr_sub (by decide))
    have hP437 := Pf_f hP358 hF429 (by decide)
    have hS438 := Fx_f hS359 hF429 (by decide)
    have hV439 := Fx_f hV360 hF429 (by decide)
    have hK440 := Fx_f hK361 hF429 (by decide)
    have bat2_425 : (0 : Int) ≤ at2_425 ∧ at2_425 ≤ 3002 := e430 ▸ hW428.1 10
    have ztk2_426 := tz_b tk2_426
    have btk2_426 : (0 : Int) ≤ tk2_426 ∧ tk2_426 ≤ 5 := e431 ▸ hW428.1 11
    have bfk2_427 : (0 : Int) ≤ fk2_427 ∧ fk2_427 ≤ 6 := e432 ▸ hW428.1 16
    refine .inl ⟨rfl, ?_⟩
    rcases q435 with ⟨a441, a442, a443, a444⟩ | ⟨a445, a446, a447, a448⟩
    · have _q : True := trivial
      refine jx_ld (pc' := 233) (l' := L) (st' := [.ref 66]) rfl (jl_aloadn gL_0) ?_
      refine jx_vr (pc' := 236) (as := []) (st := []) rfl rfl rfl rfl ⟨rfl, rfl, Nat.le_of_ble_eq_true rfl⟩ rfl rfl (c_endLine (dd := d) (hd := by omega) (hW := hW428)  (ln := ln) (e_ln := show G423 9 = ln from ((hF429.1 9 rfl).trans (fx_9))) (li := li) (e_li := show G423 3 = li from ((hF429.1 3 rfl).trans ((hFx.1 3 rfl).trans (e_li)))) (fk := fk2_427) (e_fk := show G423 16 = fk2_427 from (e432)) (tk0 := tk2_426) (e_tk0 := show G423 11 = tk2_426 from (e431))    (p_0 := by omega)) (fun o V' hq => ?_)
      obtain ⟨G449, A450, ln2_451, fk2_452, rfl, rfl, hW453, hF454, e455, e456, q457⟩ := hq
      have hF458 := Fr_tr hF436 hF454 (Fr_sub (by decide)) (Fr_sub (by decide))
      have hP459 := Pf_f hP437 hF454 (by decide)
      have hS460 := Fx_f hS438 hF454 (by decide)
      have hV461 := Fx_f hV439 hF454 (by decide)
      have hK462 := Fx_f hK440 hF454 (by decide)
      have bln2_451 : (0 : Int) ≤ ln2_451 ∧ ln2_451 ≤ 3000 := e455 ▸ hW453.1 9
      have bfk2_452 : (0 : Int) ≤ fk2_452 ∧ fk2_452 ≤ 6 := e456 ▸ hW453.1 16
      refine .inl ⟨rfl, ?_⟩
      rcases q457 with ⟨a463, a464, a465, a466, a467⟩ | ⟨a468, a469⟩
      · have _q : True := trivial
        exfalso
        omega
      · have _q : True := trivial
        refine jx_ld (pc' := 237) (l' := L) (st' := [.ref 66]) rfl (jl_aloadn gL_0) ?_
        refine jx_vr (pc' := 240) (as := []) (st := []) rfl rfl rfl rfl ⟨rfl, rfl, Nat.le_of_ble_eq_true rfl⟩ rfl rfl (c_bad (dd := d) (hd := by omega) (hW := hW453)  (fk := fk2_452) (e_fk := show G449 16 = fk2_452 from (e456))    ) (fun o V' hq => ?_)
        obtain ⟨r470, rfl, rfl, b471, q472⟩ := hq
        refine .inr ⟨_, rfl, ?_⟩
        rcases q472 with ⟨rfl, a473⟩ | ⟨rfl, a474⟩
        · have _q : True := trivial
          refine jx_if_eq (pc' := 243) (tg := 244) rfl rfl rfl (by decide) (by decide) (fun h475 => ?_) (fun h475 => ?_)
          · have _q := h475
            exact absurd h475 (by omega)
          · have _q := h475
            refine jx_rt (v := none) rfl rfl rfl rfl rfl rfl ?_
            exact ⟨_, _, ln2_451, at2_425, fk2_452, nd, sy1, na1, vi, A 3 (ln2_451).toNat, pc0, rfl, rfl, hW453, hF458, hP459, hS460, hV461, hK462, (e455), ((hF454.1 10 rfl).trans (e430)), (e456), ((hF454.1 31 rfl).trans ((hF429.1 31 rfl).trans (fx_31))), ((hF454.1 19 rfl).trans ((hF429.1 19 rfl).trans (ex_sy1))), ((hF454.1 28 rfl).trans ((hF429.1 28 rfl).trans (ex_na1))), ((hF454.1 29 rfl).trans ((hF429.1 29 rfl).trans (fx_29))), (congrFun ((hF454.2 3 rfl).trans ((hF429.2 3 rfl).trans (((congrFun eA354 3).trans (uA_ne (by decide))).trans (hFx.2 3 rfl)))) _), ((hF454.1 46 rfl).trans ((hF429.1 46 rfl).trans (fx_46))), by omega, by omega, by omega, by omega, by first | exact Or.inl (by omega)⟩
        · have _q : True := trivial
          exfalso
          omega
    · have _q : True := trivial
      exfalso
      omega
set_option maxRecDepth 20000 in
set_option maxHeartbeats 4000000 in
theorem c_readProc_at_146 {X : jX} {d : Nat} {Vs : Nat → Prop} {sb pb : Int} (hvb : VB Vs sb) {c0 c1 : jC} {G : Nat → Int} {A : Nat → Nat → Int} {T : jH} {ln li at0 fk nd sy na vi le op0 tk0 pc0 : Int} (hd : 8 * 18 + 81 ≤ d + 1) (hW : Wk G A) (e_ln : G 9 = ln) (e_li : G 3 = li) (e_at0 : G 10 = at0) (e_fk : G 16 = fk) (e_nd : G 31 = nd) (e_sy : G 19 = sy) (e_na : G 28 = na) (e_vi : G 29 = vi) (e_le : A 4 (ln).toNat = le) (e_op0 : G 15 = op0) (e_tk0 : G 11 = tk0) (e_pc0 : G 46 = pc0) (i_LT : LT G A) (i_SV : SV Vs sb G A) (i_PQ : PQ Vs sb pb G A) (p_0 : fk = 0) (p_1 : ln < li) (p_2 : at0 ≤ le) (p_3 : nd ≤ 2 * at0 - tz tk0 + 30) (p_4 : sy ≤ na + 2) (p_5 : vi ≤ sy) (p_6 : sb ≤ sy) (p_7 : pb = pc0) (p_8 : wQ A (pc0).toNat (nd) (sy)) (p_9 : VT (Vs) A (sy)) : ∀ (m : Nat) (L : jL) (Gx : Nat → Int) (Ax : Nat → Nat → Int) (p many more at1 tk1 fk1 sy1 na1 pp1 kp1 np1 : Int), (7 - many).toNat = m → jGet L 0 = some (.ref 66) → jGet L 1 = some (.int (i32 p)) → jGet L 2 = some (.int (i32 many)) → jGet L 3 = some (.int (i32 more)) → Wk Gx Ax → Fr [9, 10, 11, 12, 13, 14, 15, 16, 17, 18, 19, 28, 29, 31, 46] [6, 7, 8, 9, 10, 11, 12, 14, 15, 16, 17, 18, 19, 20, 21, 22, 23, 24, 28, 29, 30, 31] G A Gx Ax → Pf nd A Ax → Fx sr (sy) A Ax → Fx [14] (vi) A Ax → Fx [29, 30, 31] (pc0) A Ax → Gx 10 = at1 → Gx 11 = tk1 → Gx 16 = fk1 → Gx 19 = sy1 → Gx 28 = na1 → Ax 29 (pc0).toNat = pp1 → Ax 7 (sy).toNat = kp1 → Ax 12 (sy).toNat = np1 → Gx 9 = ln → Gx 29 = vi → Gx 46 = pc0 → Gx 31 = nd → ((-2147483648 : Int) ≤ p ∧ p ≤ 2147483647) → ((-2147483648 : Int) ≤ many ∧ many ≤ 2147483647) → ((-2147483648 : Int) ≤ more ∧ more ≤ 2147483647) → (fk1 = 0) → (at0 ≤ at1) → (at1 ≤ le) → (sy1 = sy + 1 + many) → (sy1 ≤ na1 + 2) → (0 ≤ many) → (0 ≤ more ∧ more ≤ 1) → (many + more ≤ 6) → (wM Ax (sy + 1) (many)) → (kp1 = 14) → (np1 = pc0) → (pp1 = sy + 1) → (p = sy) → (pc0 ≤ 23) → wj X d jm308 (146, L, [], rV c0 c1 Gx Ax T) (fun o V' => ∃ (G' : Nat → Int) (A' : Nat → Nat → Int) (ln2 : Int) (at2 : Int) (fk2 : Int) (nd2 : Int) (sy2 : Int) (na2 : Int) (vi2 : Int) (lf2 : Int) (pc2 : Int), V' = rV c0 c1 G' A' T ∧ o = .inl none ∧ Wk G' A' ∧ Fr [9, 10, 11, 12, 13, 14, 15, 16, 17, 18, 19, 28, 29, 31, 46] [6, 7, 8, 9, 10, 11, 12, 14, 15, 16, 17, 18, 19, 20, 21, 22, 23, 24, 28, 29, 30, 31] G A G' A' ∧ Pf nd A A' ∧ Fx sr (sy) A A' ∧ Fx [14] (vi) A A' ∧ Fx [29, 30, 31] (pc0) A A' ∧ G' 9 = ln2 ∧ G' 10 = at2 ∧ G' 16 = fk2 ∧ G' 31 = nd2 ∧ G' 19 = sy2 ∧ G' 28 = na2 ∧ G' 29 = vi2 ∧ A' 3 (ln2).toNat = lf2 ∧ G' 46 = pc2 ∧ (sy2 ≤ na2 + 2) ∧ (vi2 ≤ sy2) ∧ (ln ≤ ln2) ∧ (ln2 ≤ li) ∧ (((1 ≤ fk2)) ∨ ((fk2 = 0) ∧ (ln < ln2) ∧ (at0 ≤ at2) ∧ (pc2 = pc0 + 1) ∧ (nd2 - nd ≤ 2 * at2 - (2 * at0 - tz tk0)) ∧ (at2 < lf2 ∨ li ≤ ln2) ∧ (vi2 = vi + 1) ∧ (sy < sy2) ∧ (wQ A' (pc2).toNat (nd2) (sy2)) ∧ (SW (Vu Vs sy) (sy2) (vi2) A') ∧ (PQ (Vu Vs sy) (sy2) (pc2) (fun _ => 0) A') ∧ (VT (Vu Vs sy) A' (sy2))))) := by
  have hF0 : Fr [9, 10, 11, 12, 13, 14, 15, 16, 17, 18, 19, 28, 29, 31, 46] [6, 7, 8, 9, 10, 11, 12, 14, 15, 16, 17, 18, 19, 20, 21, 22, 23, 24, 28, 29, 30, 31] G A G A := Fr_rf
  have hP0 : Pf nd A A := Pf_rf
  have hS0 : Fx sr (sy) A A := Fx_rf
  have hV0 : Fx [14] (vi) A A := Fx_rf
  have hK0 : Fx [29, 30, 31] (pc0) A A := Fx_rf
  have b_ln : (0 : Int) ≤ ln ∧ ln ≤ 3000 := e_ln ▸ hW.1 9
  have b_li : (0 : Int) ≤ li ∧ li ≤ 3000 := e_li ▸ hW.1 3
  have b_at0 : (0 : Int) ≤ at0 ∧ at0 ≤ 3002 := e_at0 ▸ hW.1 10
  have b_fk : (0 : Int) ≤ fk ∧ fk ≤ 6 := e_fk ▸ hW.1 16
  have b_nd : (0 : Int) ≤ nd ∧ nd ≤ 6999 := e_nd ▸ hW.1 31
  have b_sy : (0 : Int) ≤ sy ∧ sy ≤ 202 := e_sy ▸ hW.1 19
  have b_na : (0 : Int) ≤ na ∧ na ≤ 200 := e_na ▸ hW.1 28
  have b_vi : (0 : Int) ≤ vi ∧ vi ≤ 202 := e_vi ▸ hW.1 29
  have b_le : (0 : Int) ≤ le ∧ le ≤ 3000 := e_le ▸ hW.2 4 _
  have b_op0 : (-2147483648 : Int) ≤ op0 ∧ op0 ≤ 2147483647 := e_op0 ▸ hW.1 15
  have z_tk0 := tz_f tk0
  have b_tk0 : (0 : Int) ≤ tk0 ∧ tk0 ≤ 5 := e_tk0 ▸ hW.1 11
  have b_pc0 : (0 : Int) ≤ pc0 ∧ pc0 ≤ 24 := e_pc0 ▸ hW.1 46
  intro m
  induction m using Nat.strongRecOn with
  | ind m ih146 =>
    intro L Gx Ax p many more at1 tk1 fk1 sy1 na1 pp1 kp1 np1 hm gL_0 gL_1 gL_2 gL_3 hWx hFx hPx hSx hVx hKx ex_at1 ex_tk1 ex_fk1 ex_sy1 ex_na1 ex_pp1 ex_kp1 ex_np1 fx_9 fx_29 fx_46 fx_31 rx_p rx_many rx_more iv_0 iv_1 iv_2 iv_3 iv_4 iv_5 iv_6 iv_7 iv_8 iv_9 iv_10 iv_11 iv_12 iv_13
    have b_at1 : (0 : Int) ≤ at1 ∧ at1 ≤ 3002 := ex_at1 ▸ hWx.1 10
    have z_tk1 := tz_f tk1
    have b_tk1 : (0 : Int) ≤ tk1 ∧ tk1 ≤ 5 := ex_tk1 ▸ hWx.1 11
    have b_fk1 : (0 : Int) ≤ fk1 ∧ fk1 ≤ 6 := ex_fk1 ▸ hWx.1 16
    have b_sy1 : (0 : Int) ≤ sy1 ∧ sy1 ≤ 202 := ex_sy1 ▸ hWx.1 19
    have b_na1 : (0 : Int) ≤ na1 ∧ na1 ≤ 200 := ex_na1 ▸ hWx.1 28
    refine jx_ld (pc' := 147) (l' := L) (st' := [.ref 66]) rfl (jl_aloadn gL_0) ?_
    refine jx_vr (pc' := 150) (as := []) (st := []) rfl rfl rfl rfl ⟨rfl, rfl, Nat.le_of_ble_eq_true rfl⟩ rfl rfl (c_bad (dd := d) (hd := by omega) (hW := hWx)  (fk := fk1) (e_fk := show Gx 16 = fk1 from (ex_fk1))    ) (fun o V' hq => ?_)
    obtain ⟨r476, rfl, rfl, b477, q478⟩ := hq
    refine .inr ⟨_, rfl, ?_⟩
    rcases q478 with ⟨rfl, a479⟩ | ⟨rfl, a480⟩
    · have _q : True := trivial
      exfalso
      omega
    · have _q : True := trivial
      refine jx_if_ne (pc' := 153) (tg := 212) rfl rfl rfl (by decide) (by decide) (fun h481 => ?_) (fun h481 => ?_)
      · have _q := h481
        exact absurd h481 (by omega)
      · have _q := h481
        refine jx_ld (pc' := 154) (l' := L) (st' := [.int (i32 (more))]) rfl (jl_iloadn gL_3) ?_
        refine jx_if_eq (pc' := 157) (tg := 212) rfl rfl rfl (Int.le_trans (by decide : (-2147483648 : Int) ≤ -2147483648) rx_more.1) (Int.le_trans rx_more.2 (by decide : (2147483647 : Int) ≤ 2147483647)) (fun h482 => ?_) (fun h482 => ?_)
        · have _q := h482
          refine jx_ld (pc' := 213) (l' := L) (st' := [.ref 66]) rfl (jl_aloadn gL_0) ?_
          refine jr_get (pc' := 216) (i := 48) (v := .ref 97) rfl rfl (by decide) rfl rfl ?_
          refine jx_ld (pc' := 217) (l' := L) (st' := [.ref 66, .ref 97]) rfl (jl_aloadn gL_0) ?_
          refine jr_get (pc' := 220) (i := 46) (v := .int (i32 (pc0))) rfl rfl (by decide) (rFv_eq (by decide) (show Gx 46 = pc0 from (fx_46))) rfl ?_
          refine jx_ld (pc' := 221) (l' := L) (st' := [.int (i32 (many)), .int (i32 (pc0)), .ref 97]) rfl (jl_iloadn gL_2) ?_
          refine jr_st (pc' := 222) (i := 30) (m := 25) (z := pc0) (y := many) rfl (by decide) rfl (by decide) (by omega) (by omega) rfl ?_
          have hW484 : Wk Gx (uA Ax 30 (pc0).toNat (many)) := Wk_a hWx (show (0 : Int) ≤ many by omega) (show many ≤ (6 : Int) by omega)
          have hF485 := Fr_a (z := many) (k := 30) (n := (pc0).toNat) hFx (by decide)
          obtain ⟨A483, eA483⟩ : ∃ q, q = uA Ax 30 (pc0).toNat (many) := ⟨_, rfl⟩
          rw [← eA483]
          rw [← eA483] at hW484 hF485
          have q486 : A483 30 (pc0).toNat = many := by rw [eA483]; exact uA_eq
          have hP487 : Pf nd A A483 := eA483 ▸ Pf_n hPx rfl
          have hS488 : Fx sr (sy) A A483 := eA483 ▸ Fx_n hSx rfl
          have hV489 : Fx [14] (vi) A A483 := eA483 ▸ Fx_n hVx rfl
          have hK490 : Fx [29, 30, 31] (pc0) A A483 := eA483 ▸ Fx_a hKx (z := pc0) (by omega) (by omega)
          have sf491 : wM A483 (sy + 1) (many) := wM_fx (Sg_ne (sb := sy + 1 + many) eA483 rfl) (by omega) (by omega) iv_8
          refine jx_ld (pc' := 223) (l' := L) (st' := [.ref 66]) rfl (jl_aloadn gL_0) ?_
          refine jx_ld (pc' := 224) (l' := L) (st' := [.ref 66, .ref 66]) rfl (jl_aloadn gL_0) ?_
          refine jx_ar (pc' := 226) (st' := [.int (i32 (41)), .ref 66, .ref 66]) rfl rfl rfl rfl ?_
          have b492 : (-2147483648 : Int) ≤ Gx 13 ∧ Gx 13 ≤ 2147483647 := hWx.1 13
          refine jx_vr (pc' := 229) (as := [.int (i32 (41))]) (st := [.ref 66]) rfl rfl rfl rfl ⟨rfl, rfl, Nat.le_of_ble_eq_true rfl⟩ rfl rfl (c_is (dd := d) (hd := by omega) (hW := hW484) (k := 41) (tk := tk1) (e_tk := show Gx 11 = tk1 from (ex_tk1)) (tn := Gx 13) (e_tn := show Gx 13 = Gx 13 from rfl)  (h_k := ⟨(by decide), (by decide)⟩)  ) (fun o V' hq => ?_)
          obtain ⟨r493, rfl, rfl, b494, q495⟩ := hq
          refine .inr ⟨_, rfl, ?_⟩
          rcases q495 with ⟨rfl, a496, a497, a498⟩ | rfl
          · have _q : True := trivial
            refine jx_vr (pc' := 232) (as := [.int (i32 (1))]) (st := []) rfl rfl rfl rfl ⟨rfl, rfl, Nat.le_of_ble_eq_true rfl⟩ rfl rfl (c_need (dd := d) (hd := by omega) (hW := hW484) (g := 1) (ln := ln) (e_ln := show Gx 9 = ln from (fx_9)) (le := le) (e_le := show A483 4 (ln).toNat = le from (congrFun (((congrFun eA483 4).trans (uA_ne (by decide))).trans (hFx.2 4 rfl)) _).trans (e_le)) (at0 := at1) (e_at0 := show Gx 10 = at1 from (ex_at1)) (fk := fk1) (e_fk := show Gx 16 = fk1 from (ex_fk1)) (tk0 := tk1) (e_tk0 := show Gx 11 = tk1 from (ex_tk1))  (h_g := ⟨(by decide), (by decide)⟩)  (p_0 := by omega)) (fun o V' hq => ?_)
            obtain ⟨G499, A500, at2_501, tk2_502, fk2_503, rfl, rfl, hW504, hF505, e506, e507, e508, p509, p510, q511⟩ := hq
            have hF512 := Fr_tr hF485 hF505 (Fr_sub (by decide)) (Fr_sub (by decide))
            have hP513 := Pf_f hP487 hF505 (by decide)
            have hS514 := Fx_f hS488 hF505 (by decide)
            have hV515 := Fx_f hV489 hF505 (by decide)
            have hK516 := Fx_f hK490 hF505 (by decide)
            have sf517 : wM A500 (sy + 1) (many) := wM_fx (Sg_fr (sb := sy + 1 + many) hF505 (by decide)) (by omega) (by omega) sf491
            have bat2_501 : (0 : Int) ≤ at2_501 ∧ at2_501 ≤ 3002 := e506 ▸ hW504.1 10
            have ztk2_502 := tz_b tk2_502
            have btk2_502 : (0 : Int) ≤ tk2_502 ∧ tk2_502 ≤ 5 := e507 ▸ hW504.1 11
            have bfk2_503 : (0 : Int) ≤ fk2_503 ∧ fk2_503 ≤ 6 := e508 ▸ hW504.1 16
            refine .inl ⟨rfl, ?_⟩
            rcases q511 with ⟨a518, a519, a520, a521⟩ | ⟨a522, a523, a524, a525⟩
            · have _q : True := trivial
              refine jx_ld (pc' := 233) (l' := L) (st' := [.ref 66]) rfl (jl_aloadn gL_0) ?_
              refine jx_vr (pc' := 236) (as := []) (st := []) rfl rfl rfl rfl ⟨rfl, rfl, Nat.le_of_ble_eq_true rfl⟩ rfl rfl (c_endLine (dd := d) (hd := by omega) (hW := hW504)  (ln := ln) (e_ln := show G499 9 = ln from ((hF505.1 9 rfl).trans (fx_9))) (li := li) (e_li := show G499 3 = li from ((hF505.1 3 rfl).trans ((hFx.1 3 rfl).trans (e_li)))) (fk := fk2_503) (e_fk := show G499 16 = fk2_503 from (e508)) (tk0 := tk2_502) (e_tk0 := show G499 11 = tk2_502 from (e507))    (p_0 := by omega)) (fun o V' hq => ?_)
              obtain ⟨G526, A527, ln2_528, fk2_529, rfl, rfl, hW530, hF531, e532, e533, q534⟩ := hq
              have hF535 := Fr_tr hF512 hF531 (Fr_sub (by decide)) (Fr_sub (by decide))
              have hP536 := Pf_f hP513 hF531 (by decide)
              have hS537 := Fx_f hS514 hF531 (by decide)
              have hV538 := Fx_f hV515 hF531 (by decide)
              have hK539 := Fx_f hK516 hF531 (by decide)
              have sf540 : wM A527 (sy + 1) (many) := wM_fx (Sg_fr (sb := sy + 1 + many) hF531 (by decide)) (by omega) (by omega) sf517
              have bln2_528 : (0 : Int) ≤ ln2_528 ∧ ln2_528 ≤ 3000 := e532 ▸ hW530.1 9
              have bfk2_529 : (0 : Int) ≤ fk2_529 ∧ fk2_529 ≤ 6 := e533 ▸ hW530.1 16
              refine .inl ⟨rfl, ?_⟩
              rcases q534 with ⟨a541, a542, a543, a544, a545⟩ | ⟨a546, a547⟩
              · have _q : True := trivial
                exfalso
                omega
              · have _q : True := trivial
                refine jx_ld (pc' := 237) (l' := L) (st' := [.ref 66]) rfl (jl_aloadn gL_0) ?_
                refine jx_vr (pc' := 240) (as := []) (st := []) rfl rfl rfl rfl ⟨rfl, rfl, Nat.le_of_ble_eq_true rfl⟩ rfl rfl (c_bad (dd := d) (hd := by omega) (hW := hW530)  (fk := fk2_529) (e_fk := show G526 16 = fk2_529 from (e533))    ) (fun o V' hq => ?_)
                obtain ⟨r548, rfl, rfl, b549, q550⟩ := hq
                refine .inr ⟨_, rfl, ?_⟩
                rcases q550 with ⟨rfl, a551⟩ | ⟨rfl, a552⟩
                · have _q : True := trivial
                  refine jx_if_eq (pc' := 243) (tg := 244) rfl rfl rfl (by decide) (by decide) (fun h553 => ?_) (fun h553 => ?_)
                  · have _q := h553
                    exact absurd h553 (by omega)
                  · have _q := h553
                    refine jx_rt (v := none) rfl rfl rfl rfl rfl rfl ?_
                    exact ⟨_, _, ln2_528, at2_501, fk2_529, nd, sy1, na1, vi, A 3 (ln2_528).toNat, pc0, rfl, rfl, hW530, hF535, hP536, hS537, hV538, hK539, (e532), ((hF531.1 10 rfl).trans (e506)), (e533), ((hF531.1 31 rfl).trans ((hF505.1 31 rfl).trans (fx_31))), ((hF531.1 19 rfl).trans ((hF505.1 19 rfl).trans (ex_sy1))), ((hF531.1 28 rfl).trans ((hF505.1 28 rfl).trans (ex_na1))), ((hF531.1 29 rfl).trans ((hF505.1 29 rfl).trans (fx_29))), (congrFun ((hF531.2 3 rfl).trans ((hF505.2 3 rfl).trans (((congrFun eA483 3).trans (uA_ne (by decide))).trans (hFx.2 3 rfl)))) _), ((hF531.1 46 rfl).trans ((hF505.1 46 rfl).trans (fx_46))), by omega, by omega, by omega, by omega, by first | exact Or.inl (by omega)⟩
                · have _q : True := trivial
                  exfalso
                  omega
            · have _q : True := trivial
              refine jx_ld (pc' := 233) (l' := L) (st' := [.ref 66]) rfl (jl_aloadn gL_0) ?_
              refine jx_vr (pc' := 236) (as := []) (st := []) rfl rfl rfl rfl ⟨rfl, rfl, Nat.le_of_ble_eq_true rfl⟩ rfl rfl (c_endLine (dd := d) (hd := by omega) (hW := hW504)  (ln := ln) (e_ln := show G499 9 = ln from ((hF505.1 9 rfl).trans (fx_9))) (li := li) (e_li := show G499 3 = li from ((hF505.1 3 rfl).trans ((hFx.1 3 rfl).trans (e_li)))) (fk := fk2_503) (e_fk := show G499 16 = fk2_503 from (e508)) (tk0 := tk2_502) (e_tk0 := show G499 11 = tk2_502 from (e507))    (p_0 := by omega)) (fun o V' hq => ?_)
              obtain ⟨G554, A555, ln2_556, fk2_557, rfl, rfl, hW558, hF559, e560, e561, q562⟩ := hq
              have hF563 := Fr_tr hF512 hF559 (Fr_sub (by decide)) (Fr_sub (by decide))
              have hP564 := Pf_f hP513 hF559 (by decide)
              have hS565 := Fx_f hS514 hF559 (by decide)
              have hV566 := Fx_f hV515 hF559 (by decide)
              have hK567 := Fx_f hK516 hF559 (by decide)
              have sf568 : wM A555 (sy + 1) (many) := wM_fx (Sg_fr (sb := sy + 1 + many) hF559 (by decide)) (by omega) (by omega) sf517
              have bln2_556 : (0 : Int) ≤ ln2_556 ∧ ln2_556 ≤ 3000 := e560 ▸ hW558.1 9
              have bfk2_557 : (0 : Int) ≤ fk2_557 ∧ fk2_557 ≤ 6 := e561 ▸ hW558.1 16
              refine .inl ⟨rfl, ?_⟩
              rcases q562 with ⟨a569, a570, a571, a572, a573⟩ | ⟨a574, a575⟩
              · have _q : True := trivial
                have b576 : (0 : Int) ≤ A 3 (ln2_556).toNat ∧ A 3 (ln2_556).toNat ≤ 3000 := hW.2 3 _
                have lt577 : ln2_556 < li → le < A 3 (ln2_556).toNat := fun hh => LT_nx (LT_ext (((hF559.1 3 rfl).trans ((hF505.1 3 rfl).trans (hFx.1 3 rfl)))) (((hF559.2 3 rfl).trans ((hF505.2 3 rfl).trans (((congrFun eA483 3).trans (uA_ne (by decide))).trans (hFx.2 3 rfl))))) (((hF559.2 4 rfl).trans ((hF505.2 4 rfl).trans (((congrFun eA483 4).trans (uA_ne (by decide))).trans (hFx.2 4 rfl))))) i_LT) (show G554 3 = li from ((hF559.1 3 rfl).trans ((hF505.1 3 rfl).trans ((hFx.1 3 rfl).trans (e_li))))) (show A555 4 (ln).toNat = le from (congrFun ((hF559.2 4 rfl).trans ((hF505.2 4 rfl).trans (((congrFun eA483 4).trans (uA_ne (by decide))).trans (hFx.2 4 rfl)))) _).trans (e_le)) (show A555 3 (ln2_556).toNat = A 3 (ln2_556).toNat from (congrFun ((hF559.2 3 rfl).trans ((hF505.2 3 rfl).trans (((congrFun eA483 3).trans (uA_ne (by decide))).trans (hFx.2 3 rfl)))) _)) (show ln2_556 = ln + 1 by omega) (by omega) hh
                refine jx_ld (pc' := 237) (l' := L) (st' := [.ref 66]) rfl (jl_aloadn gL_0) ?_
                refine jx_vr (pc' := 240) (as := []) (st := []) rfl rfl rfl rfl ⟨rfl, rfl, Nat.le_of_ble_eq_true rfl⟩ rfl rfl (c_bad (dd := d) (hd := by omega) (hW := hW558)  (fk := fk2_557) (e_fk := show G554 16 = fk2_557 from (e561))    ) (fun o V' hq => ?_)
                obtain ⟨r578, rfl, rfl, b579, q580⟩ := hq
                refine .inr ⟨_, rfl, ?_⟩
                rcases q580 with ⟨rfl, a581⟩ | ⟨rfl, a582⟩
                · have _q : True := trivial
                  exfalso
                  omega
                · have _q : True := trivial
                  refine jx_if_eq (pc' := 243) (tg := 244) rfl rfl rfl (by decide) (by decide) (fun h583 => ?_) (fun h583 => ?_)
                  · have _q := h583
                    refine jx_ld (pc' := 245) (l' := L) (st' := [.ref 66]) rfl (jl_aloadn gL_0) ?_
                    refine jr_get (pc' := 248) (i := 29) (v := .int (i32 (vi))) rfl rfl (by decide) (rFv_eq (by decide) (show G554 29 = vi from ((hF559.1 29 rfl).trans ((hF505.1 29 rfl).trans (fx_29))))) rfl ?_
                    refine jx_ld (pc' := 250) (l' := jSto1 L 4 (.int (i32 (vi)))) (st' := []) rfl rfl ?_
                    obtain ⟨L584, eL584⟩ : ∃ q, q = jSto1 L 4 (.int (i32 (vi))) := ⟨_, rfl⟩
                    rw [← eL584]
                    have gL584_0 : jGet L584 0 = some (.ref 66) := eL584 ▸ jg_ne (by decide) gL_0 rfl
                    have gL584_1 : jGet L584 1 = some (.int (i32 (p))) := eL584 ▸ jg_ne (by decide) gL_1 rfl
                    have gL584_2 : jGet L584 2 = some (.int (i32 (many))) := eL584 ▸ jg_ne (by decide) gL_2 rfl
                    have gL584_3 : jGet L584 3 = some (.int (i32 (more))) := eL584 ▸ jg_ne (by decide) gL_3 rfl
                    have gL584_4 : jGet L584 4 = some (.int (i32 (vi))) := eL584 ▸ jg_eq
                    refine jx_ar (pc' := 251) (st' := [.int (i32 (0))]) rfl rfl rfl rfl ?_
                    refine jx_ld (pc' := 253) (l' := jSto1 L584 5 (.int (i32 (0)))) (st' := []) rfl rfl ?_
                    obtain ⟨L585, eL585⟩ : ∃ q, q = jSto1 L584 5 (.int (i32 (0))) := ⟨_, rfl⟩
                    rw [← eL585]
                    have gL585_0 : jGet L585 0 = some (.ref 66) := eL585 ▸ jg_ne (by decide) gL584_0 rfl
                    have gL585_1 : jGet L585 1 = some (.int (i32 (p))) := eL585 ▸ jg_ne (by decide) gL584_1 rfl
                    have gL585_2 : jGet L585 2 = some (.int (i32 (many))) := eL585 ▸ jg_ne (by decide) gL584_2 rfl
                    have gL585_3 : jGet L585 3 = some (.int (i32 (more))) := eL585 ▸ jg_ne (by decide) gL584_3 rfl
                    have gL585_4 : jGet L585 4 = some (.int (i32 (vi))) := eL585 ▸ jg_ne (by decide) gL584_4 rfl
                    have gL585_5 : jGet L585 5 = some (.int (i32 (0))) := eL585 ▸ jg_eq
                    exact c_readProc_at_253 (X := X) (d := d) (Vs := Vs) (sb := sb) (pb := pb) (hvb := hvb) (c0 := c0) (c1 := c1) (G := G) (A := A) (T := T) (ln := ln) (li := li) (at0 := at0) (fk := fk) (nd := nd) (sy := sy) (na := na) (vi := vi) (le := le) (op0 := op0) (tk0 := tk0) (pc0 := pc0) (hd := hd) (hW := hW) (e_ln := e_ln) (e_li := e_li) (e_at0 := e_at0) (e_fk := e_fk) (e_nd := e_nd) (e_sy := e_sy) (e_na := e_na) (e_vi := e_vi) (e_le := e_le) (e_op0 := e_op0) (e_tk0 := e_tk0) (e_pc0 := e_pc0) (i_LT := i_LT) (i_SV := i_SV) (i_PQ := i_PQ) (p_0 := p_0) (p_1 := p_1) (p_2 := p_2) (p_3 := p_3) (p_4 := p_4) (p_5 := p_5) (p_6 := p_6) (p_7 := p_7) (p_8 := p_8) (p_9 := p_9) _ L585 G554 A555 (p) (many) (0) (ln2_556) (at2_501) (fk2_557) (sy1) (na1) (vi) (pp1) (many) (kp1) (np1) (A 3 (ln2_556).toNat) rfl gL585_0 gL585_4 gL585_1 gL585_2 gL585_5 hW558 hF563 hP564 hS565 hV566 hK567 ((e560)) (((hF559.1 10 rfl).trans (e506))) ((e561)) (((hF559.1 19 rfl).trans ((hF505.1 19 rfl).trans (ex_sy1)))) (((hF559.1 28 rfl).trans ((hF505.1 28 rfl).trans (ex_na1)))) (((hF559.1 29 rfl).trans ((hF505.1 29 rfl).trans (fx_29)))) ((congrFun ((hF559.2 29 rfl).trans ((hF505.2 29 rfl).trans ((congrFun eA483 29).trans (uA_ne (by decide))))) _).trans (ex_pp1)) ((congrFun ((hF559.2 30 rfl).trans (hF505.2 30 rfl)) _).trans (q486)) ((congrFun ((hF559.2 7 rfl).trans ((hF505.2 7 rfl).trans ((congrFun eA483 7).trans (uA_ne (by decide))))) _).trans (ex_kp1)) ((congrFun ((hF559.2 12 rfl).trans ((hF505.2 12 rfl).trans ((congrFun eA483 12).trans (uA_ne (by decide))))) _).trans (ex_np1)) ((congrFun ((hF559.2 3 rfl).trans ((hF505.2 3 rfl).trans (((congrFun eA483 3).trans (uA_ne (by decide))).trans (hFx.2 3 rfl)))) _)) (((hF559.1 46 rfl).trans ((hF505.1 46 rfl).trans (fx_46)))) (((hF559.1 31 rfl).trans ((hF505.1 31 rfl).trans (fx_31)))) (by omega) (by omega) (by omega) (by omega) (by omega) (by omega) (by omega) (by omega) (by omega) (by omega) (by omega) (by omega) (by omega) (sf568) (DS_nil) (by omega) (by omega) (by omega) (by omega) (by omega)
                  · have _q := h583
                    exact absurd h583 (by omega)
              · have _q : True := trivial
                refine jx_ld (pc' := 237) (l' := L) (st' := [.ref 66]) rfl (jl_aloadn gL_0) ?_
                refine jx_vr (pc' := 240) (as := []) (st := []) rfl rfl rfl rfl ⟨rfl, rfl, Nat.le_of_ble_eq_true rfl⟩ rfl rfl (c_bad (dd := d) (hd := by omega) (hW := hW558)  (fk := fk2_557) (e_fk := show G554 16 = fk2_557 from (e561))    ) (fun o V' hq => ?_)
                obtain ⟨r586, rfl, rfl, b587, q588⟩ := hq
                refine .inr ⟨_, rfl, ?_⟩
                rcases q588 with ⟨rfl, a589⟩ | ⟨rfl, a590⟩
                · have _q : True := trivial
                  refine jx_if_eq (pc' := 243) (tg := 244) rfl rfl rfl (by decide) (by decide) (fun h591 => ?_) (fun h591 => ?_)
                  · have _q := h591
                    exact absurd h591 (by omega)
                  · have _q := h591
                    refine jx_rt (v := none) rfl rfl rfl rfl rfl rfl ?_
                    exact ⟨_, _, ln2_556, at2_501, fk2_557, nd, sy1, na1, vi, A 3 (ln2_556).toNat, pc0, rfl, rfl, hW558, hF563, hP564, hS565, hV566, hK567, (e560), ((hF559.1 10 rfl).trans (e506)), (e561), ((hF559.1 31 rfl).trans ((hF505.1 31 rfl).trans (fx_31))), ((hF559.1 19 rfl).trans ((hF505.1 19 rfl).trans (ex_sy1))), ((hF559.1 28 rfl).trans ((hF505.1 28 rfl).trans (ex_na1))), ((hF559.1 29 rfl).trans ((hF505.1 29 rfl).trans (fx_29))), (congrFun ((hF559.2 3 rfl).trans ((hF505.2 3 rfl).trans (((congrFun eA483 3).trans (uA_ne (by decide))).trans (hFx.2 3 rfl)))) _), ((hF559.1 46 rfl).trans ((hF505.1 46 rfl).trans (fx_46))), by omega, by omega, by omega, by omega, by first | exact Or.inl (by omega)⟩
                · have _q : True := trivial
                  exfalso
                  omega
          · have _q : True := trivial
            refine jx_vr (pc' := 232) (as := [.int (i32 (0))]) (st := []) rfl rfl rfl rfl ⟨rfl, rfl, Nat.le_of_ble_eq_true rfl⟩ rfl rfl (c_need (dd := d) (hd := by omega) (hW := hW484) (g := 0) (ln := ln) (e_ln := show Gx 9 = ln from (fx_9)) (le := le) (e_le := show A483 4 (ln).toNat = le from (congrFun (((congrFun eA483 4).trans (uA_ne (by decide))).trans (hFx.2 4 rfl)) _).trans (e_le)) (at0 := at1) (e_at0 := show Gx 10 = at1 from (ex_at1)) (fk := fk1) (e_fk := show Gx 16 = fk1 from (ex_fk1)) (tk0 := tk1) (e_tk0 := show Gx 11 = tk1 from (ex_tk1))  (h_g := ⟨(by decide), (by decide)⟩)  (p_0 := by omega)) (fun o V' hq => ?_)
            obtain ⟨G592, A593, at2_594, tk2_595, fk2_596, rfl, rfl, hW597, hF598, e599, e600, e601, p602, p603, q604⟩ := hq
            have hF605 := Fr_tr hF485 hF598 (Fr_sub (by decide)) (Fr_sub (by decide))
            have hP606 := Pf_f hP487 hF598 (by decide)
            have hS607 := Fx_f hS488 hF598 (by decide)
            have hV608 := Fx_f hV489 hF598 (by decide)
            have hK609 := Fx_f hK490 hF598 (by decide)
            have sf610 : wM A593 (sy + 1) (many) := wM_fx (Sg_fr (sb := sy + 1 + many) hF598 (by decide)) (by omega) (by omega) sf491
            have bat2_594 : (0 : Int) ≤ at2_594 ∧ at2_594 ≤ 3002 := e599 ▸ hW597.1 10
            have ztk2_595 := tz_b tk2_595
            have btk2_595 : (0 : Int) ≤ tk2_595 ∧ tk2_595 ≤ 5 := e600 ▸ hW597.1 11
            have bfk2_596 : (0 : Int) ≤ fk2_596 ∧ fk2_596 ≤ 6 := e601 ▸ hW597.1 16
            refine .inl ⟨rfl, ?_⟩
            rcases q604 with ⟨a611, a612, a613, a614⟩ | ⟨a615, a616, a617, a618⟩
            · have _q : True := trivial
              refine jx_ld (pc' := 233) (l' := L) (st' := [.ref 66]) rfl (jl_aloadn gL_0) ?_
              refine jx_vr (pc' := 236) (as := []) (st := []) rfl rfl rfl rfl ⟨rfl, rfl, Nat.le_of_ble_eq_true rfl⟩ rfl rfl (c_endLine (dd := d) (hd := by omega) (hW := hW597)  (ln := ln) (e_ln := show G592 9 = ln from ((hF598.1 9 rfl).trans (fx_9))) (li := li) (e_li := show G592 3 = li from ((hF598.1 3 rfl).trans ((hFx.1 3 rfl).trans (e_li)))) (fk := fk2_596) (e_fk := show G592 16 = fk2_596 from (e601)) (tk0 := tk2_595) (e_tk0 := show G592 11 = tk2_595 from (e600))    (p_0 := by omega)) (fun o V' hq => ?_)
              obtain ⟨G619, A620, ln2_621, fk2_622, rfl, rfl, hW623, hF624, e625, e626, q627⟩ := hq
              have hF628 := Fr_tr hF605 hF624 (Fr_sub (by decide)) (Fr_sub (by decide))
              have hP629 := Pf_f hP606 hF624 (by decide)
              have hS630 := Fx_f hS607 hF624 (by decide)
              have hV631 := Fx_f hV608 hF624 (by decide)
              have hK632 := Fx_f hK609 hF624 (by decide)
              have sf633 : wM A620 (sy + 1) (many) := wM_fx (Sg_fr (sb := sy + 1 + many) hF624 (by decide)) (by omega) (by omega) sf610
              have bln2_621 : (0 : Int) ≤ ln2_621 ∧ ln2_621 ≤ 3000 := e625 ▸ hW623.1 9
              have bfk2_622 : (0 : Int) ≤ fk2_622 ∧ fk2_622 ≤ 6 := e626 ▸ hW623.1 16
              refine .inl ⟨rfl, ?_⟩
              rcases q627 with ⟨a634, a635, a636, a637, a638⟩ | ⟨a639, a640⟩
              · have _q : True := trivial
                exfalso
                omega
              · have _q : True := trivial
                refine jx_ld (pc' := 237) (l' := L) (st' := [.ref 66]) rfl (jl_aloadn gL_0) ?_
                refine jx_vr (pc' := 240) (as := []) (st := []) rfl rfl rfl rfl ⟨rfl, rfl, Nat.le_of_ble_eq_true rfl⟩ rfl rfl (c_bad (dd := d) (hd := by omega) (hW := hW623)  (fk := fk2_622) (e_fk := show G619 16 = fk2_622 from (e626))    ) (fun o V' hq => ?_)
                obtain ⟨r641, rfl, rfl, b642, q643⟩ := hq
                refine .inr ⟨_, rfl, ?_⟩
                rcases q643 with ⟨rfl, a644⟩ | ⟨rfl, a645⟩
                · have _q : True := trivial
                  refine jx_if_eq (pc' := 243) (tg := 244) rfl rfl rfl (by decide) (by decide) (fun h646 => ?_) (fun h646 => ?_)
                  · have _q := h646
                    exact absurd h646 (by omega)
                  · have _q := h646
                    refine jx_rt (v := none) rfl rfl rfl rfl rfl rfl ?_
                    exact ⟨_, _, ln2_621, at2_594, fk2_622, nd, sy1, na1, vi, A 3 (ln2_621).toNat, pc0, rfl, rfl, hW623, hF628, hP629, hS630, hV631, hK632, (e625), ((hF624.1 10 rfl).trans (e599)), (e626), ((hF624.1 31 rfl).trans ((hF598.1 31 rfl).trans (fx_31))), ((hF624.1 19 rfl).trans ((hF598.1 19 rfl).trans (ex_sy1))), ((hF624.1 28 rfl).trans ((hF598.1 28 rfl).trans (ex_na1))), ((hF624.1 29 rfl).trans ((hF598.1 29 rfl).trans (fx_29))), (congrFun ((hF624.2 3 rfl).trans ((hF598.2 3 rfl).trans (((congrFun eA483 3).trans (uA_ne (by decide))).trans (hFx.2 3 rfl)))) _), ((hF624.1 46 rfl).trans ((hF598.1 46 rfl).trans (fx_46))), by omega, by omega, by omega, by omega, by first | exact Or.inl (by omega)⟩
                · have _q : True := trivial
                  exfalso
                  omega
            · have _q : True := trivial
              exfalso
              omega
        · have _q := h482
          refine jx_ld (pc' := 158) (l' := L) (st' := [.ref 66]) rfl (jl_aloadn gL_0) ?_
          refine jx_ld (pc' := 159) (l' := L) (st' := [.ref 66, .ref 66]) rfl (jl_aloadn gL_0) ?_
          refine jr_get (pc' := 162) (i := 47) (v := .ref 96) rfl rfl (by decide) rfl rfl ?_
          refine jx_ld (pc' := 163) (l' := L) (st' := [.ref 66, .ref 96, .ref 66]) rfl (jl_aloadn gL_0) ?_
          refine jr_get (pc' := 166) (i := 46) (v := .int (i32 (pc0))) rfl rfl (by decide) (rFv_eq (by decide) (show Gx 46 = pc0 from (fx_46))) rfl ?_
          refine jr_ldv (pc' := 167) (i := 29) (m := 25) (z := pc0) (y := pp1) rfl (by decide) rfl (by decide) (Int.le_trans (by decide : (0 : Int) ≤ 0) b_pc0.1) (Int.lt_of_le_of_lt b_pc0.2 (by decide : (24 : Int) < ((25 : Nat) : Int))) rfl (show Ax 29 (pc0).toNat = pp1 from (ex_pp1)) ?_
          refine jx_vr (pc' := 170) (as := [.int (i32 (pp1))]) (st := []) rfl rfl rfl rfl ⟨rfl, rfl, Nat.le_of_ble_eq_true rfl⟩ rfl rfl (c_readParameter (dd := d) (hd := by omega) (hW := hWx) (fr := pp1) (ln := ln) (e_ln := show Gx 9 = ln from (fx_9)) (le := le) (e_le := show Ax 4 (ln).toNat = le from (congrFun (hFx.2 4 rfl) _).trans (e_le)) (at0 := at1) (e_at0 := show Gx 10 = at1 from (ex_at1)) (fk := fk1) (e_fk := show Gx 16 = fk1 from (ex_fk1)) (tk0 := tk1) (e_tk0 := show Gx 11 = tk1 from (ex_tk1)) (sy := sy1) (e_sy := show Gx 19 = sy1 from (ex_sy1)) (na := na1) (e_na := show Gx 28 = na1 from (ex_na1))  (h_fr := ⟨(by omega), (by omega)⟩)  (p_0 := by omega) (p_1 := by omega) (p_2 := by omega) (p_3 := by omega)) (fun o V' hq => ?_)
          obtain ⟨G647, A648, at2_649, fk2_650, sy2_651, na2_652, rfl, rfl, hW653, hF654, hQ655, e656, e657, e658, e659, p660, p661, p662, p663, q664⟩ := hq
          have hF665 := Fr_tr hFx hF654 (Fr_sub (by decide)) (Fr_sub (by decide))
          have hP666 := Pf_f hPx hF654 (by decide)
          have hS667 := Fx_tr hSx hQ655 (by omega)
          have hV668 := Fx_f hVx hF654 (by decide)
          have hK669 := Fx_f hKx hF654 (by decide)
          have k670 : A648 7 (sy).toNat = kp1 := (hQ655 7 _ rfl (by omega)).trans (show Ax 7 (sy).toNat = kp1 from (ex_kp1))
          have k671 : A648 12 (sy).toNat = np1 := (hQ655 12 _ rfl (by omega)).trans (show Ax 12 (sy).toNat = np1 from (ex_np1))
          have sf672 : wM A648 (sy + 1) (many) := wM_fx hQ655 (by omega) (by omega) iv_8
          have bat2_649 : (0 : Int) ≤ at2_649 ∧ at2_649 ≤ 3002 := e656 ▸ hW653.1 10
          have bfk2_650 : (0 : Int) ≤ fk2_650 ∧ fk2_650 ≤ 6 := e657 ▸ hW653.1 16
          have bsy2_651 : (0 : Int) ≤ sy2_651 ∧ sy2_651 ≤ 202 := e658 ▸ hW653.1 19
          have bna2_652 : (0 : Int) ≤ na2_652 ∧ na2_652 ≤ 200 := e659 ▸ hW653.1 28
          refine .inl ⟨rfl, ?_⟩
          rcases q664 with a673 | ⟨a674, a675, a676⟩
          · have _q : True := trivial
            refine jx_inc (pc' := 173) (l' := jSto1 L 2 (.int (i32 ((many + (1)))))) (x := many) rfl gL_2 (by decide) rfl rfl ?_
            obtain ⟨L677, eL677⟩ : ∃ q, q = jSto1 L 2 (.int (i32 ((many + (1))))) := ⟨_, rfl⟩
            rw [← eL677]
            have gL677_0 : jGet L677 0 = some (.ref 66) := eL677 ▸ jg_ne (by decide) gL_0 rfl
            have gL677_1 : jGet L677 1 = some (.int (i32 (p))) := eL677 ▸ jg_ne (by decide) gL_1 rfl
            have gL677_3 : jGet L677 3 = some (.int (i32 (more))) := eL677 ▸ jg_ne (by decide) gL_3 rfl
            have gL677_2 : jGet L677 2 = some (.int (i32 ((many + (1))))) := eL677 ▸ jg_eq
            refine jx_ld (pc' := 174) (l' := L677) (st' := [.ref 66]) rfl (jl_aloadn gL677_0) ?_
            refine jx_vr (pc' := 177) (as := []) (st := []) rfl rfl rfl rfl ⟨rfl, rfl, Nat.le_of_ble_eq_true rfl⟩ rfl rfl (c_bad (dd := d) (hd := by omega) (hW := hW653)  (fk := fk2_650) (e_fk := show G647 16 = fk2_650 from (e657))    ) (fun o V' hq => ?_)
            obtain ⟨r678, rfl, rfl, b679, q680⟩ := hq
            refine .inr ⟨_, rfl, ?_⟩
            rcases q680 with ⟨rfl, a681⟩ | ⟨rfl, a682⟩
            · have _q : True := trivial
              refine jx_if_ne (pc' := 180) (tg := 199) rfl rfl rfl (by decide) (by decide) (fun h683 => ?_) (fun h683 => ?_)
              · have _q := h683
                refine jx_ar (pc' := 200) (st' := [.int (i32 (0))]) rfl rfl rfl rfl ?_
                refine jx_ld (pc' := 201) (l' := jSto1 L677 3 (.int (i32 (0)))) (st' := []) rfl rfl ?_
                obtain ⟨L684, eL684⟩ : ∃ q, q = jSto1 L677 3 (.int (i32 (0))) := ⟨_, rfl⟩
                rw [← eL684]
                have gL684_0 : jGet L684 0 = some (.ref 66) := eL684 ▸ jg_ne (by decide) gL677_0 rfl
                have gL684_1 : jGet L684 1 = some (.int (i32 (p))) := eL684 ▸ jg_ne (by decide) gL677_1 rfl
                have gL684_2 : jGet L684 2 = some (.int (i32 ((many + (1))))) := eL684 ▸ jg_ne (by decide) gL677_2 rfl
                have gL684_3 : jGet L684 3 = some (.int (i32 (0))) := eL684 ▸ jg_eq
                refine jx_ld (pc' := 202) (l' := L684) (st' := [.int (i32 (0))]) rfl (jl_iloadn gL684_3) ?_
                refine jx_if_eq (pc' := 205) (tg := 146) rfl rfl rfl (by decide) (by decide) (fun h685 => ?_) (fun h685 => ?_)
                · have _q := h685
                  refine jx_ld (pc' := 147) (l' := L684) (st' := [.ref 66]) rfl (jl_aloadn gL684_0) ?_
                  refine jx_vr (pc' := 150) (as := []) (st := []) rfl rfl rfl rfl ⟨rfl, rfl, Nat.le_of_ble_eq_true rfl⟩ rfl rfl (c_bad (dd := d) (hd := by omega) (hW := hW653)  (fk := fk2_650) (e_fk := show G647 16 = fk2_650 from (e657))    ) (fun o V' hq => ?_)
                  obtain ⟨r686, rfl, rfl, b687, q688⟩ := hq
                  refine .inr ⟨_, rfl, ?_⟩
                  rcases q688 with ⟨rfl, a689⟩ | ⟨rfl, a690⟩
                  · have _q : True := trivial
                    refine jx_if_ne (pc' := 153) (tg := 212) rfl rfl rfl (by decide) (by decide) (fun h691 => ?_) (fun h691 => ?_)
                    · have _q := h691
                      exact c_readProc_at_212p (X := X) (d := d) (Vs := Vs) (sb := sb) (pb := pb) (hvb := hvb) (c0 := c0) (c1 := c1) (G := G) (A := A) (T := T) (ln := ln) (li := li) (at0 := at0) (fk := fk) (nd := nd) (sy := sy) (na := na) (vi := vi) (le := le) (op0 := op0) (tk0 := tk0) (pc0 := pc0) (hd := hd) (hW := hW) (e_ln := e_ln) (e_li := e_li) (e_at0 := e_at0) (e_fk := e_fk) (e_nd := e_nd) (e_sy := e_sy) (e_na := e_na) (e_vi := e_vi) (e_le := e_le) (e_op0 := e_op0) (e_tk0 := e_tk0) (e_pc0 := e_pc0) (i_LT := i_LT) (i_SV := i_SV) (i_PQ := i_PQ) (p_0 := p_0) (p_1 := p_1) (p_2 := p_2) (p_3 := p_3) (p_4 := p_4) (p_5 := p_5) (p_6 := p_6) (p_7 := p_7) (p_8 := p_8) (p_9 := p_9) L684 G647 A648 (p) ((many + (1))) (at2_649) (fk2_650) (sy2_651) (na2_652) gL684_0 gL684_1 gL684_2 hW653 hF665 hP666 hS667 hV668 hK669 ((e656)) ((e657)) ((e658)) ((e659)) (((hF654.1 9 rfl).trans (fx_9))) (((hF654.1 29 rfl).trans (fx_29))) (((hF654.1 46 rfl).trans (fx_46))) (((hF654.1 31 rfl).trans (fx_31))) (by omega) (by omega) (by omega) (by omega) (by omega) (by omega) (by omega) (by omega) (by omega)
                    · have _q := h691
                      exact absurd h691 (by omega)
                  · have _q : True := trivial
                    exfalso
                    omega
                · have _q := h685
                  exact absurd h685 (by omega)
              · have _q := h683
                exact absurd h683 (by omega)
            · have _q : True := trivial
              exfalso
              omega
          · have _q : True := trivial
            refine jx_inc (pc' := 173) (l' := jSto1 L 2 (.int (i32 ((many + (1)))))) (x := many) rfl gL_2 (by decide) rfl rfl ?_
            obtain ⟨L692, eL692⟩ : ∃ q, q = jSto1 L 2 (.int (i32 ((many + (1))))) := ⟨_, rfl⟩
            rw [← eL692]
            have gL692_0 : jGet L692 0 = some (.ref 66) := eL692 ▸ jg_ne (by decide) gL_0 rfl
            have gL692_1 : jGet L692 1 = some (.int (i32 (p))) := eL692 ▸ jg_ne (by decide) gL_1 rfl
            have gL692_3 : jGet L692 3 = some (.int (i32 (more))) := eL692 ▸ jg_ne (by decide) gL_3 rfl
            have gL692_2 : jGet L692 2 = some (.int (i32 ((many + (1))))) := eL692 ▸ jg_eq
            refine jx_ld (pc' := 174) (l' := L692) (st' := [.ref 66]) rfl (jl_aloadn gL692_0) ?_
            refine jx_vr (pc' := 177) (as := []) (st := []) rfl rfl rfl rfl ⟨rfl, rfl, Nat.le_of_ble_eq_true rfl⟩ rfl rfl (c_bad (dd := d) (hd := by omega) (hW := hW653)  (fk := fk2_650) (e_fk := show G647 16 = fk2_650 from (e657))    ) (fun o V' hq => ?_)
            obtain ⟨r693, rfl, rfl, b694, q695⟩ := hq
            refine .inr ⟨_, rfl, ?_⟩
            rcases q695 with ⟨rfl, a696⟩ | ⟨rfl, a697⟩
            · have _q : True := trivial
              exfalso
              omega
            · have _q : True := trivial
              refine jx_if_ne (pc' := 180) (tg := 199) rfl rfl rfl (by decide) (by decide) (fun h698 => ?_) (fun h698 => ?_)
              · have _q := h698
                exact absurd h698 (by omega)
              · have _q := h698
                refine jx_ld (pc' := 181) (l' := L692) (st' := [.ref 66]) rfl (jl_aloadn gL692_0) ?_
                refine jx_ar (pc' := 183) (st' := [.int (i32 (44)), .ref 66]) rfl rfl rfl rfl ?_
                have b699 : (0 : Int) ≤ G647 11 ∧ G647 11 ≤ 5 := hW653.1 11
                have b700 : (-2147483648 : Int) ≤ G647 13 ∧ G647 13 ≤ 2147483647 := hW653.1 13
                refine jx_vr (pc' := 186) (as := [.int (i32 (44))]) (st := []) rfl rfl rfl rfl ⟨rfl, rfl, Nat.le_of_ble_eq_true rfl⟩ rfl rfl (c_is (dd := d) (hd := by omega) (hW := hW653) (k := 44) (tk := G647 11) (e_tk := show G647 11 = G647 11 from rfl) (tn := G647 13) (e_tn := show G647 13 = G647 13 from rfl)  (h_k := ⟨(by decide), (by decide)⟩)  ) (fun o V' hq => ?_)
                obtain ⟨r701, rfl, rfl, b702, q703⟩ := hq
                refine .inr ⟨_, rfl, ?_⟩
                rcases q703 with ⟨rfl, a704, a705, a706⟩ | rfl
                · have _q : True := trivial
                  refine jx_if_eq (pc' := 189) (tg := 199) rfl rfl rfl (by decide) (by decide) (fun h707 => ?_) (fun h707 => ?_)
                  · have _q := h707
                    exact absurd h707 (by omega)
                  · have _q := h707
                    refine jx_ld (pc' := 190) (l' := L692) (st' := [.int (i32 ((many + (1))))]) rfl (jl_iloadn gL692_2) ?_
                    refine jx_ar (pc' := 192) (st' := [.int (i32 (6)), .int (i32 ((many + (1))))]) rfl rfl rfl rfl ?_
                    refine jx_icmp_ge (pc' := 195) (tg := 199) rfl rfl rfl (by omega) (by omega) (by decide) (by decide) (fun h708 => ?_) (fun h708 => ?_)
                    · have _q := h708
                      refine jx_ar (pc' := 200) (st' := [.int (i32 (0))]) rfl rfl rfl rfl ?_
                      refine jx_ld (pc' := 201) (l' := jSto1 L692 3 (.int (i32 (0)))) (st' := []) rfl rfl ?_
                      obtain ⟨L709, eL709⟩ : ∃ q, q = jSto1 L692 3 (.int (i32 (0))) := ⟨_, rfl⟩
                      rw [← eL709]
                      have gL709_0 : jGet L709 0 = some (.ref 66) := eL709 ▸ jg_ne (by decide) gL692_0 rfl
                      have gL709_1 : jGet L709 1 = some (.int (i32 (p))) := eL709 ▸ jg_ne (by decide) gL692_1 rfl
                      have gL709_2 : jGet L709 2 = some (.int (i32 ((many + (1))))) := eL709 ▸ jg_ne (by decide) gL692_2 rfl
                      have gL709_3 : jGet L709 3 = some (.int (i32 (0))) := eL709 ▸ jg_eq
                      refine jx_ld (pc' := 202) (l' := L709) (st' := [.int (i32 (0))]) rfl (jl_iloadn gL709_3) ?_
                      refine jx_if_eq (pc' := 205) (tg := 146) rfl rfl rfl (by decide) (by decide) (fun h710 => ?_) (fun h710 => ?_)
                      · have _q := h710
                        exact ih146 _ (by omega) L709 G647 A648 (p) ((many + (1))) (0) (at2_649) (G647 11) (fk2_650) (sy2_651) (na2_652) (pp1) (kp1) (np1) rfl gL709_0 gL709_1 gL709_2 gL709_3 hW653 hF665 hP666 hS667 hV668 hK669 ((e656)) (rfl) ((e657)) ((e658)) ((e659)) ((congrFun (hF654.2 29 rfl) _).trans (ex_pp1)) ((k670)) ((k671)) (((hF654.1 9 rfl).trans (fx_9))) (((hF654.1 29 rfl).trans (fx_29))) (((hF654.1 46 rfl).trans (fx_46))) (((hF654.1 31 rfl).trans (fx_31))) (by omega) (by omega) (by omega) (by omega) (by omega) (by omega) (by omega) (by omega) (by omega) (by omega) (by omega) ((wM_add sf672 a676 (by omega) (by omega))) (by omega) (by omega) (by omega) (by omega) (by omega)
                      · have _q := h710
                        exact absurd h710 (by omega)
                    · have _q := h708
                      refine jx_ar (pc' := 196) (st' := [.int (i32 (1))]) rfl rfl rfl rfl ?_
                      refine jx_go (tg := 200) rfl rfl ?_
                      refine jx_ld (pc' := 201) (l' := jSto1 L692 3 (.int (i32 (1)))) (st' := []) rfl rfl ?_
                      obtain ⟨L711, eL711⟩ : ∃ q, q = jSto1 L692 3 (.int (i32 (1))) := ⟨_, rfl⟩
                      rw [← eL711]
                      have gL711_0 : jGet L711 0 = some (.ref 66) := eL711 ▸ jg_ne (by decide) gL692_0 rfl
                      have gL711_1 : jGet L711 1 = some (.int (i32 (p))) := eL711 ▸ jg_ne (by decide) gL692_1 rfl
                      have gL711_2 : jGet L711 2 = some (.int (i32 ((many + (1))))) := eL711 ▸ jg_ne (by decide) gL692_2 rfl
                      have gL711_3 : jGet L711 3 = some (.int (i32 (1))) := eL711 ▸ jg_eq
                      refine jx_ld (pc' := 202) (l' := L711) (st' := [.int (i32 (1))]) rfl (jl_iloadn gL711_3) ?_
                      refine jx_if_eq (pc' := 205) (tg := 146) rfl rfl rfl (by decide) (by decide) (fun h712 => ?_) (fun h712 => ?_)
                      · have _q := h712
                        exact absurd h712 (by omega)
                      · have _q := h712
                        refine jx_ld (pc' := 206) (l' := L711) (st' := [.ref 66]) rfl (jl_aloadn gL711_0) ?_
                        refine jx_vr (pc' := 209) (as := []) (st := []) rfl rfl rfl rfl ⟨rfl, rfl, Nat.le_of_ble_eq_true rfl⟩ rfl rfl (c_next (dd := d) (hd := by omega) (hW := hW653)  (ln := ln) (e_ln := show G647 9 = ln from ((hF654.1 9 rfl).trans (fx_9))) (le := le) (e_le := show A648 4 (ln).toNat = le from (congrFun ((hF654.2 4 rfl).trans (hFx.2 4 rfl)) _).trans (e_le)) (at0 := at2_649) (e_at0 := show G647 10 = at2_649 from (e656))    (p_0 := by omega)) (fun o V' hq => ?_)
                        obtain ⟨G713, A714, at2_715, tk2_716, rfl, rfl, hW717, hF718, e719, e720, p721, p722, p723, -⟩ := hq
                        have hF725 := Fr_tr hF665 hF718 (Fr_sub (by decide)) (Fr_sub (by decide))
                        have hP726 := Pf_f hP666 hF718 (by decide)
                        have hS727 := Fx_f hS667 hF718 (by decide)
                        have hV728 := Fx_f hV668 hF718 (by decide)
                        have hK729 := Fx_f hK669 hF718 (by decide)
                        have sf730 : wM A714 (sy + 1) (many) := wM_fx (Sg_fr (sb := sy + 1 + many) hF718 (by decide)) (by omega) (by omega) sf672
                        have sf731 : MP A714 (sy1) := MP_fx (Sg_fr (sb := sy1 + 1) hF718 (by decide)) (by omega) (by omega) a676
                        have bat2_715 : (0 : Int) ≤ at2_715 ∧ at2_715 ≤ 3002 := e719 ▸ hW717.1 10
                        have ztk2_716 := tz_b tk2_716
                        have btk2_716 : (0 : Int) ≤ tk2_716 ∧ tk2_716 ≤ 5 := e720 ▸ hW717.1 11
                        refine .inl ⟨rfl, ?_⟩
                        refine jx_go (tg := 146) rfl rfl ?_
                        exact ih146 _ (by omega) L711 G713 A714 (p) ((many + (1))) (1) (at2_715) (tk2_716) (fk2_650) (sy2_651) (na2_652) (pp1) (kp1) (np1) rfl gL711_0 gL711_1 gL711_2 gL711_3 hW717 hF725 hP726 hS727 hV728 hK729 ((e719)) ((e720)) (((hF718.1 16 rfl).trans (e657))) (((hF718.1 19 rfl).trans (e658))) (((hF718.1 28 rfl).trans (e659))) ((congrFun ((hF718.2 29 rfl).trans (hF654.2 29 rfl)) _).trans (ex_pp1)) ((congrFun (hF718.2 7 rfl) _).trans (k670)) ((congrFun (hF718.2 12 rfl) _).trans (k671)) (((hF718.1 9 rfl).trans ((hF654.1 9 rfl).trans (fx_9)))) (((hF718.1 29 rfl).trans ((hF654.1 29 rfl).trans (fx_29)))) (((hF718.1 46 rfl).trans ((hF654.1 46 rfl).trans (fx_46)))) (((hF718.1 31 rfl).trans ((hF654.1 31 rfl).trans (fx_31)))) (by omega) (by omega) (by omega) (by omega) (by omega) (by omega) (by omega) (by omega) (by omega) (by omega) (by omega) ((wM_add sf730 sf731 (by omega) (by omega))) (by omega) (by omega) (by omega) (by omega) (by omega)
                · have _q : True := trivial
                  refine jx_if_eq (pc' := 189) (tg := 199) rfl rfl rfl (by decide) (by decide) (fun h732 => ?_) (fun h732 => ?_)
                  · have _q := h732
                    refine jx_ar (pc' := 200) (st' := [.int (i32 (0))]) rfl rfl rfl rfl ?_
                    refine jx_ld (pc' := 201) (l' := jSto1 L692 3 (.int (i32 (0)))) (st' := []) rfl rfl ?_
                    obtain ⟨L733, eL733⟩ : ∃ q, q = jSto1 L692 3 (.int (i32 (0))) := ⟨_, rfl⟩
                    rw [← eL733]
                    have gL733_0 : jGet L733 0 = some (.ref 66) := eL733 ▸ jg_ne (by decide) gL692_0 rfl
                    have gL733_1 : jGet L733 1 = some (.int (i32 (p))) := eL733 ▸ jg_ne (by decide) gL692_1 rfl
                    have gL733_2 : jGet L733 2 = some (.int (i32 ((many + (1))))) := eL733 ▸ jg_ne (by decide) gL692_2 rfl
                    have gL733_3 : jGet L733 3 = some (.int (i32 (0))) := eL733 ▸ jg_eq
                    refine jx_ld (pc' := 202) (l' := L733) (st' := [.int (i32 (0))]) rfl (jl_iloadn gL733_3) ?_
                    refine jx_if_eq (pc' := 205) (tg := 146) rfl rfl rfl (by decide) (by decide) (fun h734 => ?_) (fun h734 => ?_)
                    · have _q := h734
                      exact ih146 _ (by omega) L733 G647 A648 (p) ((many + (1))) (0) (at2_649) (G647 11) (fk2_650) (sy2_651) (na2_652) (pp1) (kp1) (np1) rfl gL733_0 gL733_1 gL733_2 gL733_3 hW653 hF665 hP666 hS667 hV668 hK669 ((e656)) (rfl) ((e657)) ((e658)) ((e659)) ((congrFun (hF654.2 29 rfl) _).trans (ex_pp1)) ((k670)) ((k671)) (((hF654.1 9 rfl).trans (fx_9))) (((hF654.1 29 rfl).trans (fx_29))) (((hF654.1 46 rfl).trans (fx_46))) (((hF654.1 31 rfl).trans (fx_31))) (by omega) (by omega) (by omega) (by omega) (by omega) (by omega) (by omega) (by omega) (by omega) (by omega) (by omega) ((wM_add sf672 a676 (by omega) (by omega))) (by omega) (by omega) (by omega) (by omega) (by omega)
                    · have _q := h734
                      exact absurd h734 (by omega)
                  · have _q := h732
                    exact absurd h732 (by omega)
set_option maxRecDepth 20000 in
set_option maxHeartbeats 4000000 in
theorem c_readProc {X : jX} {dd : Nat} {Vs : Nat → Prop} {sb pb : Int} (hvb : VB Vs sb) {c0 c1 : jC} {G : Nat → Int} {A : Nat → Nat → Int} {T : jH} {ln li at0 fk nd sy na vi le op0 tk0 pc0 : Int} (hd : 8 * 18 + 81 ≤ dd) (hW : Wk G A) (e_ln : G 9 = ln) (e_li : G 3 = li) (e_at0 : G 10 = at0) (e_fk : G 16 = fk) (e_nd : G 31 = nd) (e_sy : G 19 = sy) (e_na : G 28 = na) (e_vi : G 29 = vi) (e_le : A 4 (ln).toNat = le) (e_op0 : G 15 = op0) (e_tk0 : G 11 = tk0) (e_pc0 : G 46 = pc0) (i_LT : LT G A) (i_SV : SV Vs sb G A) (i_PQ : PQ Vs sb pb G A) (p_0 : fk = 0) (p_1 : ln < li) (p_2 : at0 ≤ le) (p_3 : nd ≤ 2 * at0 - tz tk0 + 30) (p_4 : sy ≤ na + 2) (p_5 : vi ≤ sy) (p_6 : sb ≤ sy) (p_7 : pb = pc0) (p_8 : wQ A (pc0).toNat (nd) (sy)) (p_9 : VT (Vs) A (sy)) : wk X dd 308 [.ref 66] (rV c0 c1 G A T) (fun o V' => ∃ (G' : Nat → Int) (A' : Nat → Nat → Int) (ln2 : Int) (at2 : Int) (fk2 : Int) (nd2 : Int) (sy2 : Int) (na2 : Int) (vi2 : Int) (lf2 : Int) (pc2 : Int), V' = rV c0 c1 G' A' T ∧ o = .inl none ∧ Wk G' A' ∧ Fr [9, 10, 11, 12, 13, 14, 15, 16, 17, 18, 19, 28, 29, 31, 46] [6, 7, 8, 9, 10, 11, 12, 14, 15, 16, 17, 18, 19, 20, 21, 22, 23, 24, 28, 29, 30, 31] G A G' A' ∧ Pf nd A A' ∧ Fx sr (sy) A A' ∧ Fx [14] (vi) A A' ∧ Fx [29, 30, 31] (pc0) A A' ∧ G' 9 = ln2 ∧ G' 10 = at2 ∧ G' 16 = fk2 ∧ G' 31 = nd2 ∧ G' 19 = sy2 ∧ G' 28 = na2 ∧ G' 29 = vi2 ∧ A' 3 (ln2).toNat = lf2 ∧ G' 46 = pc2 ∧ (sy2 ≤ na2 + 2) ∧ (vi2 ≤ sy2) ∧ (ln ≤ ln2) ∧ (ln2 ≤ li) ∧ (((1 ≤ fk2)) ∨ ((fk2 = 0) ∧ (ln < ln2) ∧ (at0 ≤ at2) ∧ (pc2 = pc0 + 1) ∧ (nd2 - nd ≤ 2 * at2 - (2 * at0 - tz tk0)) ∧ (at2 < lf2 ∨ li ≤ ln2) ∧ (vi2 = vi + 1) ∧ (sy < sy2) ∧ (wQ A' (pc2).toNat (nd2) (sy2)) ∧ (SW (Vu Vs sy) (sy2) (vi2) A') ∧ (PQ (Vu Vs sy) (sy2) (pc2) (fun _ => 0) A') ∧ (VT (Vu Vs sy) A' (sy2))))) := by
  obtain ⟨d, rfl⟩ : ∃ d, dd = d + 1 := ⟨dd - 1, by omega⟩
  refine wk_of (e := jm308) rfl (Nat.le_of_ble_eq_true rfl) ?_
  show wj X d jm308 (0, [(0, .ref 66)], [], rV c0 c1 G A T) _
  have hF0 : Fr [9, 10, 11, 12, 13, 14, 15, 16, 17, 18, 19, 28, 29, 31, 46] [6, 7, 8, 9, 10, 11, 12, 14, 15, 16, 17, 18, 19, 20, 21, 22, 23, 24, 28, 29, 30, 31] G A G A := Fr_rf
  have hP0 : Pf nd A A := Pf_rf
  have hS0 : Fx sr (sy) A A := Fx_rf
  have hV0 : Fx [14] (vi) A A := Fx_rf
  have hK0 : Fx [29, 30, 31] (pc0) A A := Fx_rf
  have b_ln : (0 : Int) ≤ ln ∧ ln ≤ 3000 := e_ln ▸ hW.1 9
  have b_li : (0 : Int) ≤ li ∧ li ≤ 3000 := e_li ▸ hW.1 3
  have b_at0 : (0 : Int) ≤ at0 ∧ at0 ≤ 3002 := e_at0 ▸ hW.1 10
  have b_fk : (0 : Int) ≤ fk ∧ fk ≤ 6 := e_fk ▸ hW.1 16
  have b_nd : (0 : Int) ≤ nd ∧ nd ≤ 6999 := e_nd ▸ hW.1 31
  have b_sy : (0 : Int) ≤ sy ∧ sy ≤ 202 := e_sy ▸ hW.1 19
  have b_na : (0 : Int) ≤ na ∧ na ≤ 200 := e_na ▸ hW.1 28
  have b_vi : (0 : Int) ≤ vi ∧ vi ≤ 202 := e_vi ▸ hW.1 29
  have b_le : (0 : Int) ≤ le ∧ le ≤ 3000 := e_le ▸ hW.2 4 _
  have b_op0 : (-2147483648 : Int) ≤ op0 ∧ op0 ≤ 2147483647 := e_op0 ▸ hW.1 15
  have z_tk0 := tz_f tk0
  have b_tk0 : (0 : Int) ≤ tk0 ∧ tk0 ≤ 5 := e_tk0 ▸ hW.1 11
  have b_pc0 : (0 : Int) ≤ pc0 ∧ pc0 ≤ 24 := e_pc0 ▸ hW.1 46
  refine jx_ld (pc' := 1) (l' := [(0, .ref 66)]) (st' := [.ref 66]) rfl (jl_aloadn rfl) ?_
  refine jx_vr (pc' := 4) (as := []) (st := []) rfl rfl rfl rfl ⟨rfl, rfl, Nat.le_of_ble_eq_true rfl⟩ rfl rfl (c_next (dd := d) (hd := by omega) (hW := hW)  (ln := ln) (e_ln := show G 9 = ln from (e_ln)) (le := le) (e_le := show A 4 (ln).toNat = le from (e_le)) (at0 := at0) (e_at0 := show G 10 = at0 from (e_at0))    (p_0 := by omega)) (fun o V' hq => ?_)
  obtain ⟨G735, A736, at2_737, tk2_738, rfl, rfl, hW739, hF740, e741, e742, p743, p744, p745, -⟩ := hq
  have hF747 := Fr_tr hF0 hF740 (Fr_sub (by decide)) (Fr_sub (by decide))
  have hP748 := Pf_f hP0 hF740 (by decide)
  have hS749 := Fx_f hS0 hF740 (by decide)
  have hV750 := Fx_f hV0 hF740 (by decide)
  have hK751 := Fx_f hK0 hF740 (by decide)
  have sf752 : wQ A736 (pc0).toNat (nd) (sy) := (show A736 = A from funext (fun k => hF740.2 k rfl)) ▸ p_8
  have sf753 : VT (Vs) A736 (sy) := (show A736 = A from funext (fun k => hF740.2 k rfl)) ▸ p_9
  have bat2_737 : (0 : Int) ≤ at2_737 ∧ at2_737 ≤ 3002 := e741 ▸ hW739.1 10
  have ztk2_738 := tz_b tk2_738
  have btk2_738 : (0 : Int) ≤ tk2_738 ∧ tk2_738 ≤ 5 := e742 ▸ hW739.1 11
  refine .inl ⟨rfl, ?_⟩
  refine jx_ld (pc' := 5) (l' := [(0, .ref 66)]) (st' := [.ref 66]) rfl (jl_aloadn rfl) ?_
  have z754 := tz_f (tk2_738)
  refine jr_get (pc' := 8) (i := 11) (v := .int (i32 (tk2_738))) rfl rfl (by decide) (rFv_eq (by decide) (show G735 11 = tk2_738 from (e742))) rfl ?_
  refine jx_ar (pc' := 9) (st' := [.int (i32 (1)), .int (i32 (tk2_738))]) rfl rfl rfl rfl ?_
  refine jx_icmp_eq (pc' := 12) (tg := 22) rfl rfl rfl (Int.le_trans (by decide : (-2147483648 : Int) ≤ 0) btk2_738.1) (Int.le_trans btk2_738.2 (by decide : (5 : Int) ≤ 2147483647)) (by decide) (by decide) (fun h755 => ?_) (fun h755 => ?_)
  · have _q := h755
    refine jx_ld (pc' := 23) (l' := [(0, .ref 66)]) (st' := [.ref 66]) rfl (jl_aloadn rfl) ?_
    refine jx_ld (pc' := 24) (l' := [(0, .ref 66)]) (st' := [.ref 66, .ref 66]) rfl (jl_aloadn rfl) ?_
    refine jr_get (pc' := 27) (i := 14) (v := .long (i64 (G735 14))) rfl rfl (by decide) rfl rfl ?_
    obtain ⟨y756, ey756⟩ : ∃ q : Int64, q = i64 (G735 14) := ⟨_, rfl⟩
    rw [← ey756]
    refine jx_vr (pc' := 30) (as := [.long (y756)]) (st := []) rfl rfl rfl rfl ⟨rfl, rfl, Nat.le_of_ble_eq_true rfl⟩ rfl rfl (c_isTaken (dd := d) (hd := by omega) (hW := hW739) (nm := y756) (sy := sy) (e_sy := show G735 19 = sy from ((hF740.1 19 rfl).trans (e_sy)))    ) (fun o V' hq => ?_)
    obtain ⟨r757, rfl, rfl, b758, -⟩ := hq
    refine .inr ⟨_, rfl, ?_⟩
    refine jx_if_eq (pc' := 33) (tg := 42) rfl rfl rfl (Int.le_trans (by decide : (-2147483648 : Int) ≤ 0) b758.1) (Int.le_trans b758.2 (by decide : (1 : Int) ≤ 2147483647)) (fun h760 => ?_) (fun h760 => ?_)
    · have _q := h760
      refine jx_ld (pc' := 43) (l' := [(0, .ref 66)]) (st' := [.ref 66]) rfl (jl_aloadn rfl) ?_
      refine jx_vr (pc' := 46) (as := []) (st := []) rfl rfl rfl rfl ⟨rfl, rfl, Nat.le_of_ble_eq_true rfl⟩ rfl rfl (c_bad (dd := d) (hd := by omega) (hW := hW739)  (fk := fk) (e_fk := show G735 16 = fk from ((hF740.1 16 rfl).trans (e_fk)))    ) (fun o V' hq => ?_)
      obtain ⟨r761, rfl, rfl, b762, q763⟩ := hq
      refine .inr ⟨_, rfl, ?_⟩
      rcases q763 with ⟨rfl, a764⟩ | ⟨rfl, a765⟩
      · have _q : True := trivial
        exfalso
        omega
      · have _q : True := trivial
        refine jx_if_ne (pc' := 49) (tg := 68) rfl rfl rfl (by decide) (by decide) (fun h766 => ?_) (fun h766 => ?_)
        · have _q := h766
          exact absurd h766 (by omega)
        · have _q := h766
          refine jx_ld (pc' := 50) (l' := [(0, .ref 66)]) (st' := [.ref 66]) rfl (jl_aloadn rfl) ?_
          refine jr_get (pc' := 53) (i := 46) (v := .int (i32 (pc0))) rfl rfl (by decide) (rFv_eq (by decide) (show G735 46 = pc0 from ((hF740.1 46 rfl).trans (e_pc0)))) rfl ?_
          refine jx_ar (pc' := 55) (st' := [.int (i32 (24)), .int (i32 (pc0))]) rfl rfl rfl rfl ?_
          refine jx_icmp_ne (pc' := 58) (tg := 68) rfl rfl rfl (Int.le_trans (by decide : (-2147483648 : Int) ≤ 0) b_pc0.1) (Int.le_trans b_pc0.2 (by decide : (24 : Int) ≤ 2147483647)) (by decide) (by decide) (fun h767 => ?_) (fun h767 => ?_)
          · have _q := h767
            refine jx_ld (pc' := 69) (l' := [(0, .ref 66)]) (st' := [.ref 66]) rfl (jl_aloadn rfl) ?_
            refine jx_ar (pc' := 71) (st' := [.int (i32 (14)), .ref 66]) rfl rfl rfl rfl ?_
            refine jx_ar (pc' := 72) (st' := [.int (i32 (0)), .int (i32 (14)), .ref 66]) rfl rfl rfl rfl ?_
            refine jx_vr (pc' := 75) (as := [.int (i32 (14)), .int (i32 (0))]) (st := []) rfl rfl rfl rfl ⟨rfl, rfl, Nat.le_of_ble_eq_true rfl⟩ rfl rfl (c_newName (dd := d) (hd := by omega) (hW := hW739) (kind := 14) (many := 0) (sy := sy) (e_sy := show G735 19 = sy from ((hF740.1 19 rfl).trans (e_sy))) (na := na) (e_na := show G735 28 = na from ((hF740.1 28 rfl).trans (e_na))) (fk := fk) (e_fk := show G735 16 = fk from ((hF740.1 16 rfl).trans (e_fk)))  (h_kind := ⟨(by decide), (by decide)⟩) (h_many := ⟨(by decide), (by decide)⟩)  (p_0 := by omega) (p_1 := by omega)) (fun o V' hq => ?_)
            obtain ⟨G768, A769, r770, sy2_771, na2_772, fk2_773, yk2_774, rfl, rfl, hW775, hF776, hQ777, b778, e779, e780, e781, e782, q783⟩ := hq
            have hF784 := Fr_tr hF747 hF776 (Fr_sub (by decide)) (Fr_sub (by decide))
            have hP785 := Pf_f hP748 hF776 (by decide)
            have hS786 := Fx_tr hS749 hQ777 (by omega)
            have hV787 := Fx_f hV750 hF776 (by decide)
            have hK788 := Fx_f hK751 hF776 (by decide)
            have sf789 : wQ A769 (pc0).toNat (nd) (sy) := wQ_fx (Pf_f Pf_rf hF776 (by decide)) (Fx_su hQ777 (by omega)) (Fx_su (Fx_f (w := pc0) Fx_rf hF776 (by decide)) (by omega)) sf752
            have sf790 : VT (Vs) A769 (sy) := VT_fx hQ777 (by omega) sf753
            have bsy2_771 : (0 : Int) ≤ sy2_771 ∧ sy2_771 ≤ 202 := e779 ▸ hW775.1 19
            have bna2_772 : (0 : Int) ≤ na2_772 ∧ na2_772 ≤ 200 := e780 ▸ hW775.1 28
            have bfk2_773 : (0 : Int) ≤ fk2_773 ∧ fk2_773 ≤ 6 := e781 ▸ hW775.1 16
            have byk2_774 : (0 : Int) ≤ yk2_774 ∧ yk2_774 ≤ 14 := e782 ▸ hW775.2 7 _
            refine .inr ⟨_, rfl, ?_⟩
            rcases q783 with ⟨a797, a791, a792, a793, a794, a795, a796⟩ | ⟨rfl, a798, a799, a800⟩
            · have _q : True := trivial
              rw [a797]
              refine jx_ld (pc' := 76) (l' := jSto1 [(0, .ref 66)] 1 (.int (i32 (sy)))) (st' := []) rfl rfl ?_
              obtain ⟨L801, eL801⟩ : ∃ q, q = jSto1 [(0, .ref 66)] 1 (.int (i32 (sy))) := ⟨_, rfl⟩
              rw [← eL801]
              have gL801_0 : jGet L801 0 = some (.ref 66) := eL801 ▸ jg_ne (by decide) (rfl : jGet [(0, .ref 66)] 0 = some (.ref 66)) rfl
              have gL801_1 : jGet L801 1 = some (.int (i32 (sy))) := eL801 ▸ jg_eq
              refine jx_ld (pc' := 77) (l' := L801) (st' := [.ref 66]) rfl (jl_aloadn gL801_0) ?_
              refine jx_vr (pc' := 80) (as := []) (st := []) rfl rfl rfl rfl ⟨rfl, rfl, Nat.le_of_ble_eq_true rfl⟩ rfl rfl (c_bad (dd := d) (hd := by omega) (hW := hW775)  (fk := fk2_773) (e_fk := show G768 16 = fk2_773 from (e781))    ) (fun o V' hq => ?_)
              obtain ⟨r802, rfl, rfl, b803, q804⟩ := hq
              refine .inr ⟨_, rfl, ?_⟩
              rcases q804 with ⟨rfl, a805⟩ | ⟨rfl, a806⟩
              · have _q : True := trivial
                exfalso
                omega
              · have _q : True := trivial
                refine jx_if_eq (pc' := 83) (tg := 84) rfl rfl rfl (by decide) (by decide) (fun h807 => ?_) (fun h807 => ?_)
                · have _q := h807
                  refine jx_ld (pc' := 85) (l' := L801) (st' := [.ref 66]) rfl (jl_aloadn gL801_0) ?_
                  refine jr_get (pc' := 88) (i := 26) (v := .ref 79) rfl rfl (by decide) rfl rfl ?_
                  refine jx_ld (pc' := 89) (l' := L801) (st' := [.int (i32 (sy)), .ref 79]) rfl (jl_iloadn gL801_1) ?_
                  refine jx_ld (pc' := 90) (l' := L801) (st' := [.ref 66, .int (i32 (sy)), .ref 79]) rfl (jl_aloadn gL801_0) ?_
                  refine jr_get (pc' := 93) (i := 46) (v := .int (i32 (pc0))) rfl rfl (by decide) (rFv_eq (by decide) (show G768 46 = pc0 from ((hF776.1 46 rfl).trans ((hF740.1 46 rfl).trans (e_pc0))))) rfl ?_
                  refine jr_st (pc' := 94) (i := 12) (m := 260) (z := sy) (y := pc0) rfl (by decide) rfl (by decide) (by omega) (by omega) rfl ?_
                  have hW809 : Wk G768 (uA A769 12 (sy).toNat (pc0)) := Wk_a hW775 (show (0 : Int) ≤ pc0 by omega) (show pc0 ≤ (24 : Int) by omega)
                  have hF810 := Fr_a (z := pc0) (k := 12) (n := (sy).toNat) hF784 (by decide)
                  obtain ⟨A808, eA808⟩ : ∃ q, q = uA A769 12 (sy).toNat (pc0) := ⟨_, rfl⟩
                  rw [← eA808]
                  rw [← eA808] at hW809 hF810
                  have q811 : A808 12 (sy).toNat = pc0 := by rw [eA808]; exact uA_eq
                  have hP812 : Pf nd A A808 := eA808 ▸ Pf_n hP785 rfl
                  have hS813 : Fx sr (sy) A A808 := eA808 ▸ Fx_a hS786 (z := sy) (by omega) (by omega)
                  have hV814 : Fx [14] (vi) A A808 := eA808 ▸ Fx_n hV787 rfl
                  have hK815 : Fx [29, 30, 31] (pc0) A A808 := eA808 ▸ Fx_n hK788 rfl
                  refine jx_ld (pc' := 95) (l' := L801) (st' := [.ref 66]) rfl (jl_aloadn gL801_0) ?_
                  refine jx_ar (pc' := 96) (st' := [.int (i32 (1)), .ref 66]) rfl rfl rfl rfl ?_
                  refine jx_vr (pc' := 99) (as := [.int (i32 (1))]) (st := []) rfl rfl rfl rfl ⟨rfl, rfl, Nat.le_of_ble_eq_true rfl⟩ rfl rfl (c_need (dd := d) (hd := by omega) (hW := hW809) (g := 1) (ln := ln) (e_ln := show G768 9 = ln from ((hF776.1 9 rfl).trans ((hF740.1 9 rfl).trans (e_ln)))) (le := le) (e_le := show A808 4 (ln).toNat = le from (congrFun (((congrFun eA808 4).trans (uA_ne (by decide))).trans ((hF776.2 4 rfl).trans (hF740.2 4 rfl))) _).trans (e_le)) (at0 := at2_737) (e_at0 := show G768 10 = at2_737 from ((hF776.1 10 rfl).trans (e741))) (fk := fk2_773) (e_fk := show G768 16 = fk2_773 from (e781)) (tk0 := tk2_738) (e_tk0 := show G768 11 = tk2_738 from ((hF776.1 11 rfl).trans (e742)))  (h_g := ⟨(by decide), (by decide)⟩)  (p_0 := by omega)) (fun o V' hq => ?_)
                  obtain ⟨G816, A817, at2_818, tk2_819, fk2_820, rfl, rfl, hW821, hF822, e823, e824, e825, p826, p827, q828⟩ := hq
                  have hF829 := Fr_tr hF810 hF822 (Fr_sub (by decide)) (Fr_sub (by decide))
                  have hP830 := Pf_f hP812 hF822 (by decide)
                  have hS831 := Fx_f hS813 hF822 (by decide)
                  have hV832 := Fx_f hV814 hF822 (by decide)
                  have hK833 := Fx_f hK815 hF822 (by decide)
                  have bat2_818 : (0 : Int) ≤ at2_818 ∧ at2_818 ≤ 3002 := e823 ▸ hW821.1 10
                  have ztk2_819 := tz_b tk2_819
                  have btk2_819 : (0 : Int) ≤ tk2_819 ∧ tk2_819 ≤ 5 := e824 ▸ hW821.1 11
                  have bfk2_820 : (0 : Int) ≤ fk2_820 ∧ fk2_820 ≤ 6 := e825 ▸ hW821.1 16
                  refine .inl ⟨rfl, ?_⟩
                  rcases q828 with ⟨a834, a835, a836, a837⟩ | ⟨a838, a839, a840, a841⟩
                  · have _q : True := trivial
                    refine jx_ld (pc' := 100) (l' := L801) (st' := [.ref 66]) rfl (jl_aloadn gL801_0) ?_
                    refine jx_ld (pc' := 101) (l' := L801) (st' := [.ref 66, .ref 66]) rfl (jl_aloadn gL801_0) ?_
                    refine jx_ar (pc' := 103) (st' := [.int (i32 (40)), .ref 66, .ref 66]) rfl rfl rfl rfl ?_
                    have b842 : (-2147483648 : Int) ≤ G816 13 ∧ G816 13 ≤ 2147483647 := hW821.1 13
                    refine jx_vr (pc' := 106) (as := [.int (i32 (40))]) (st := [.ref 66]) rfl rfl rfl rfl ⟨rfl, rfl, Nat.le_of_ble_eq_true rfl⟩ rfl rfl (c_is (dd := d) (hd := by omega) (hW := hW821) (k := 40) (tk := tk2_819) (e_tk := show G816 11 = tk2_819 from (e824)) (tn := G816 13) (e_tn := show G816 13 = G816 13 from rfl)  (h_k := ⟨(by decide), (by decide)⟩)  ) (fun o V' hq => ?_)
                    obtain ⟨r843, rfl, rfl, b844, q845⟩ := hq
                    refine .inr ⟨_, rfl, ?_⟩
                    rcases q845 with ⟨rfl, a846, a847, a848⟩ | rfl
                    · have _q : True := trivial
                      refine jx_vr (pc' := 109) (as := [.int (i32 (1))]) (st := []) rfl rfl rfl rfl ⟨rfl, rfl, Nat.le_of_ble_eq_true rfl⟩ rfl rfl (c_need (dd := d) (hd := by omega) (hW := hW821) (g := 1) (ln := ln) (e_ln := show G816 9 = ln from ((hF822.1 9 rfl).trans ((hF776.1 9 rfl).trans ((hF740.1 9 rfl).trans (e_ln))))) (le := le) (e_le := show A817 4 (ln).toNat = le from (congrFun ((hF822.2 4 rfl).trans (((congrFun eA808 4).trans (uA_ne (by decide))).trans ((hF776.2 4 rfl).trans (hF740.2 4 rfl)))) _).trans (e_le)) (at0 := at2_818) (e_at0 := show G816 10 = at2_818 from (e823)) (fk := fk2_820) (e_fk := show G816 16 = fk2_820 from (e825)) (tk0 := tk2_819) (e_tk0 := show G816 11 = tk2_819 from (e824))  (h_g := ⟨(by decide), (by decide)⟩)  (p_0 := by omega)) (fun o V' hq => ?_)
                      obtain ⟨G849, A850, at2_851, tk2_852, fk2_853, rfl, rfl, hW854, hF855, e856, e857, e858, p859, p860, q861⟩ := hq
                      have hF862 := Fr_tr hF829 hF855 (Fr_sub (by decide)) (Fr_sub (by decide))
                      have hP863 := Pf_f hP830 hF855 (by decide)
                      have hS864 := Fx_f hS831 hF855 (by decide)
                      have hV865 := Fx_f hV832 hF855 (by decide)
                      have hK866 := Fx_f hK833 hF855 (by decide)
                      have bat2_851 : (0 : Int) ≤ at2_851 ∧ at2_851 ≤ 3002 := e856 ▸ hW854.1 10
                      have ztk2_852 := tz_b tk2_852
                      have btk2_852 : (0 : Int) ≤ tk2_852 ∧ tk2_852 ≤ 5 := e857 ▸ hW854.1 11
                      have bfk2_853 : (0 : Int) ≤ fk2_853 ∧ fk2_853 ≤ 6 := e858 ▸ hW854.1 16
                      refine .inl ⟨rfl, ?_⟩
                      rcases q861 with ⟨a867, a868, a869, a870⟩ | ⟨a871, a872, a873, a874⟩
                      · have _q : True := trivial
                        refine jx_ld (pc' := 110) (l' := L801) (st' := [.ref 66]) rfl (jl_aloadn gL801_0) ?_
                        refine jr_get (pc' := 113) (i := 47) (v := .ref 96) rfl rfl (by decide) rfl rfl ?_
                        refine jx_ld (pc' := 114) (l' := L801) (st' := [.ref 66, .ref 96]) rfl (jl_aloadn gL801_0) ?_
                        refine jr_get (pc' := 117) (i := 46) (v := .int (i32 (pc0))) rfl rfl (by decide) (rFv_eq (by decide) (show G849 46 = pc0 from ((hF855.1 46 rfl).trans ((hF822.1 46 rfl).trans ((hF776.1 46 rfl).trans ((hF740.1 46 rfl).trans (e_pc0))))))) rfl ?_
                        refine jx_ld (pc' := 118) (l' := L801) (st' := [.ref 66, .int (i32 (pc0)), .ref 96]) rfl (jl_aloadn gL801_0) ?_
                        refine jr_get (pc' := 121) (i := 19) (v := .int (i32 (sy2_771))) rfl rfl (by decide) (rFv_eq (by decide) (show G849 19 = sy2_771 from ((hF855.1 19 rfl).trans ((hF822.1 19 rfl).trans (e779))))) rfl ?_
                        refine jr_st (pc' := 122) (i := 29) (m := 25) (z := pc0) (y := sy2_771) rfl (by decide) rfl (by decide) (by omega) (by omega) rfl ?_
                        have hW876 : Wk G849 (uA A850 29 (pc0).toNat (sy2_771)) := Wk_a hW854 (show (0 : Int) ≤ sy2_771 by omega) (show sy2_771 ≤ (202 : Int) by omega)
                        have hF877 := Fr_a (z := sy2_771) (k := 29) (n := (pc0).toNat) hF862 (by decide)
                        obtain ⟨A875, eA875⟩ : ∃ q, q = uA A850 29 (pc0).toNat (sy2_771) := ⟨_, rfl⟩
                        rw [← eA875]
                        rw [← eA875] at hW876 hF877
                        have q878 : A875 29 (pc0).toNat = sy2_771 := by rw [eA875]; exact uA_eq
                        have hP879 : Pf nd A A875 := eA875 ▸ Pf_n hP863 rfl
                        have hS880 : Fx sr (sy) A A875 := eA875 ▸ Fx_n hS864 rfl
                        have hV881 : Fx [14] (vi) A A875 := eA875 ▸ Fx_n hV865 rfl
                        have hK882 : Fx [29, 30, 31] (pc0) A A875 := eA875 ▸ Fx_a hK866 (z := pc0) (by omega) (by omega)
                        refine jx_ar (pc' := 123) (st' := [.int (i32 (0))]) rfl rfl rfl rfl ?_
                        refine jx_ld (pc' := 124) (l' := jSto1 L801 2 (.int (i32 (0)))) (st' := []) rfl rfl ?_
                        obtain ⟨L883, eL883⟩ : ∃ q, q = jSto1 L801 2 (.int (i32 (0))) := ⟨_, rfl⟩
                        rw [← eL883]
                        have gL883_0 : jGet L883 0 = some (.ref 66) := eL883 ▸ jg_ne (by decide) gL801_0 rfl
                        have gL883_1 : jGet L883 1 = some (.int (i32 (sy))) := eL883 ▸ jg_ne (by decide) gL801_1 rfl
                        have gL883_2 : jGet L883 2 = some (.int (i32 (0))) := eL883 ▸ jg_eq
                        refine jx_ld (pc' := 125) (l' := L883) (st' := [.ref 66]) rfl (jl_aloadn gL883_0) ?_
                        refine jx_vr (pc' := 128) (as := []) (st := []) rfl rfl rfl rfl ⟨rfl, rfl, Nat.le_of_ble_eq_true rfl⟩ rfl rfl (c_bad (dd := d) (hd := by omega) (hW := hW876)  (fk := fk2_853) (e_fk := show G849 16 = fk2_853 from (e858))    ) (fun o V' hq => ?_)
                        obtain ⟨r884, rfl, rfl, b885, q886⟩ := hq
                        refine .inr ⟨_, rfl, ?_⟩
                        rcases q886 with ⟨rfl, a887⟩ | ⟨rfl, a888⟩
                        · have _q : True := trivial
                          refine jx_if_ne (pc' := 131) (tg := 144) rfl rfl rfl (by decide) (by decide) (fun h889 => ?_) (fun h889 => ?_)
                          · have _q := h889
                            refine jx_ar (pc' := 145) (st' := [.int (i32 (0))]) rfl rfl rfl rfl ?_
                            refine jx_ld (pc' := 146) (l' := jSto1 L883 3 (.int (i32 (0)))) (st' := []) rfl rfl ?_
                            obtain ⟨L890, eL890⟩ : ∃ q, q = jSto1 L883 3 (.int (i32 (0))) := ⟨_, rfl⟩
                            rw [← eL890]
                            have gL890_0 : jGet L890 0 = some (.ref 66) := eL890 ▸ jg_ne (by decide) gL883_0 rfl
                            have gL890_1 : jGet L890 1 = some (.int (i32 (sy))) := eL890 ▸ jg_ne (by decide) gL883_1 rfl
                            have gL890_2 : jGet L890 2 = some (.int (i32 (0))) := eL890 ▸ jg_ne (by decide) gL883_2 rfl
                            have gL890_3 : jGet L890 3 = some (.int (i32 (0))) := eL890 ▸ jg_eq
                            refine jx_ld (pc' := 147) (l' := L890) (st' := [.ref 66]) rfl (jl_aloadn gL890_0) ?_
                            refine jx_vr (pc' := 150) (as := []) (st := []) rfl rfl rfl rfl ⟨rfl, rfl, Nat.le_of_ble_eq_true rfl⟩ rfl rfl (c_bad (dd := d) (hd := by omega) (hW := hW876)  (fk := fk2_853) (e_fk := show G849 16 = fk2_853 from (e858))    ) (fun o V' hq => ?_)
                            obtain ⟨r891, rfl, rfl, b892, q893⟩ := hq
                            refine .inr ⟨_, rfl, ?_⟩
                            rcases q893 with ⟨rfl, a894⟩ | ⟨rfl, a895⟩
                            · have _q : True := trivial
                              refine jx_if_ne (pc' := 153) (tg := 212) rfl rfl rfl (by decide) (by decide) (fun h896 => ?_) (fun h896 => ?_)
                              · have _q := h896
                                exact c_readProc_at_212p (X := X) (d := d) (Vs := Vs) (sb := sb) (pb := pb) (hvb := hvb) (c0 := c0) (c1 := c1) (G := G) (A := A) (T := T) (ln := ln) (li := li) (at0 := at0) (fk := fk) (nd := nd) (sy := sy) (na := na) (vi := vi) (le := le) (op0 := op0) (tk0 := tk0) (pc0 := pc0) (hd := hd) (hW := hW) (e_ln := e_ln) (e_li := e_li) (e_at0 := e_at0) (e_fk := e_fk) (e_nd := e_nd) (e_sy := e_sy) (e_na := e_na) (e_vi := e_vi) (e_le := e_le) (e_op0 := e_op0) (e_tk0 := e_tk0) (e_pc0 := e_pc0) (i_LT := i_LT) (i_SV := i_SV) (i_PQ := i_PQ) (p_0 := p_0) (p_1 := p_1) (p_2 := p_2) (p_3 := p_3) (p_4 := p_4) (p_5 := p_5) (p_6 := p_6) (p_7 := p_7) (p_8 := p_8) (p_9 := p_9) L890 G849 A875 (sy) (0) (at2_851) (fk2_853) (sy2_771) (na2_772) gL890_0 gL890_1 gL890_2 hW876 hF877 hP879 hS880 hV881 hK882 ((e856)) ((e858)) (((hF855.1 19 rfl).trans ((hF822.1 19 rfl).trans (e779)))) (((hF855.1 28 rfl).trans ((hF822.1 28 rfl).trans (e780)))) (((hF855.1 9 rfl).trans ((hF822.1 9 rfl).trans ((hF776.1 9 rfl).trans ((hF740.1 9 rfl).trans (e_ln)))))) (((hF855.1 29 rfl).trans ((hF822.1 29 rfl).trans ((hF776.1 29 rfl).trans ((hF740.1 29 rfl).trans (e_vi)))))) (((hF855.1 46 rfl).trans ((hF822.1 46 rfl).trans ((hF776.1 46 rfl).trans ((hF740.1 46 rfl).trans (e_pc0)))))) (((hF855.1 31 rfl).trans ((hF822.1 31 rfl).trans ((hF776.1 31 rfl).trans ((hF740.1 31 rfl).trans (e_nd)))))) (by omega) (by omega) (by omega) (by omega) (by omega) (by omega) (by omega) (by omega) (by omega)
                              · have _q := h896
                                exact absurd h896 (by omega)
                            · have _q : True := trivial
                              exfalso
                              omega
                          · have _q := h889
                            exact absurd h889 (by omega)
                        · have _q : True := trivial
                          exfalso
                          omega
                      · have _q : True := trivial
                        exfalso
                        omega
                    · have _q : True := trivial
                      refine jx_vr (pc' := 109) (as := [.int (i32 (0))]) (st := []) rfl rfl rfl rfl ⟨rfl, rfl, Nat.le_of_ble_eq_true rfl⟩ rfl rfl (c_need (dd := d) (hd := by omega) (hW := hW821) (g := 0) (ln := ln) (e_ln := show G816 9 = ln from ((hF822.1 9 rfl).trans ((hF776.1 9 rfl).trans ((hF740.1 9 rfl).trans (e_ln))))) (le := le) (e_le := show A817 4 (ln).toNat = le from (congrFun ((hF822.2 4 rfl).trans (((congrFun eA808 4).trans (uA_ne (by decide))).trans ((hF776.2 4 rfl).trans (hF740.2 4 rfl)))) _).trans (e_le)) (at0 := at2_818) (e_at0 := show G816 10 = at2_818 from (e823)) (fk := fk2_820) (e_fk := show G816 16 = fk2_820 from (e825)) (tk0 := tk2_819) (e_tk0 := show G816 11 = tk2_819 from (e824))  (h_g := ⟨(by decide), (by decide)⟩)  (p_0 := by omega)) (fun o V' hq => ?_)
                      obtain ⟨G897, A898, at2_899, tk2_900, fk2_901, rfl, rfl, hW902, hF903, e904, e905, e906, p907, p908, q909⟩ := hq
                      have hF910 := Fr_tr hF829 hF903 (Fr_sub (by decide)) (Fr_sub (by decide))
                      have hP911 := Pf_f hP830 hF903 (by decide)
                      have hS912 := Fx_f hS831 hF903 (by decide)
                      have hV913 := Fx_f hV832 hF903 (by decide)
                      have hK914 := Fx_f hK833 hF903 (by decide)
                      have bat2_899 : (0 : Int) ≤ at2_899 ∧ at2_899 ≤ 3002 := e904 ▸ hW902.1 10
                      have ztk2_900 := tz_b tk2_900
                      have btk2_900 : (0 : Int) ≤ tk2_900 ∧ tk2_900 ≤ 5 := e905 ▸ hW902.1 11
                      have bfk2_901 : (0 : Int) ≤ fk2_901 ∧ fk2_901 ≤ 6 := e906 ▸ hW902.1 16
                      refine .inl ⟨rfl, ?_⟩
                      rcases q909 with ⟨a915, a916, a917, a918⟩ | ⟨a919, a920, a921, a922⟩
                      · have _q : True := trivial
                        refine jx_ld (pc' := 110) (l' := L801) (st' := [.ref 66]) rfl (jl_aloadn gL801_0) ?_
                        refine jr_get (pc' := 113) (i := 47) (v := .ref 96) rfl rfl (by decide) rfl rfl ?_
                        refine jx_ld (pc' := 114) (l' := L801) (st' := [.ref 66, .ref 96]) rfl (jl_aloadn gL801_0) ?_
                        refine jr_get (pc' := 117) (i := 46) (v := .int (i32 (pc0))) rfl rfl (by decide) (rFv_eq (by decide) (show G897 46 = pc0 from ((hF903.1 46 rfl).trans ((hF822.1 46 rfl).trans ((hF776.1 46 rfl).trans ((hF740.1 46 rfl).trans (e_pc0))))))) rfl ?_
                        refine jx_ld (pc' := 118) (l' := L801) (st' := [.ref 66, .int (i32 (pc0)), .ref 96]) rfl (jl_aloadn gL801_0) ?_
                        refine jr_get (pc' := 121) (i := 19) (v := .int (i32 (sy2_771))) rfl rfl (by decide) (rFv_eq (by decide) (show G897 19 = sy2_771 from ((hF903.1 19 rfl).trans ((hF822.1 19 rfl).trans (e779))))) rfl ?_
                        refine jr_st (pc' := 122) (i := 29) (m := 25) (z := pc0) (y := sy2_771) rfl (by decide) rfl (by decide) (by omega) (by omega) rfl ?_
                        have hW924 : Wk G897 (uA A898 29 (pc0).toNat (sy2_771)) := Wk_a hW902 (show (0 : Int) ≤ sy2_771 by omega) (show sy2_771 ≤ (202 : Int) by omega)
                        have hF925 := Fr_a (z := sy2_771) (k := 29) (n := (pc0).toNat) hF910 (by decide)
                        obtain ⟨A923, eA923⟩ : ∃ q, q = uA A898 29 (pc0).toNat (sy2_771) := ⟨_, rfl⟩
                        rw [← eA923]
                        rw [← eA923] at hW924 hF925
                        have q926 : A923 29 (pc0).toNat = sy2_771 := by rw [eA923]; exact uA_eq
                        have hP927 : Pf nd A A923 := eA923 ▸ Pf_n hP911 rfl
                        have hS928 : Fx sr (sy) A A923 := eA923 ▸ Fx_n hS912 rfl
                        have hV929 : Fx [14] (vi) A A923 := eA923 ▸ Fx_n hV913 rfl
                        have hK930 : Fx [29, 30, 31] (pc0) A A923 := eA923 ▸ Fx_a hK914 (z := pc0) (by omega) (by omega)
                        refine jx_ar (pc' := 123) (st' := [.int (i32 (0))]) rfl rfl rfl rfl ?_
                        refine jx_ld (pc' := 124) (l' := jSto1 L801 2 (.int (i32 (0)))) (st' := []) rfl rfl ?_
                        obtain ⟨L931, eL931⟩ : ∃ q, q = jSto1 L801 2 (.int (i32 (0))) := ⟨_, rfl⟩
                        rw [← eL931]
                        have gL931_0 : jGet L931 0 = some (.ref 66) := eL931 ▸ jg_ne (by decide) gL801_0 rfl
                        have gL931_1 : jGet L931 1 = some (.int (i32 (sy))) := eL931 ▸ jg_ne (by decide) gL801_1 rfl
                        have gL931_2 : jGet L931 2 = some (.int (i32 (0))) := eL931 ▸ jg_eq
                        refine jx_ld (pc' := 125) (l' := L931) (st' := [.ref 66]) rfl (jl_aloadn gL931_0) ?_
                        refine jx_vr (pc' := 128) (as := []) (st := []) rfl rfl rfl rfl ⟨rfl, rfl, Nat.le_of_ble_eq_true rfl⟩ rfl rfl (c_bad (dd := d) (hd := by omega) (hW := hW924)  (fk := fk2_901) (e_fk := show G897 16 = fk2_901 from (e906))    ) (fun o V' hq => ?_)
                        obtain ⟨r932, rfl, rfl, b933, q934⟩ := hq
                        refine .inr ⟨_, rfl, ?_⟩
                        rcases q934 with ⟨rfl, a935⟩ | ⟨rfl, a936⟩
                        · have _q : True := trivial
                          refine jx_if_ne (pc' := 131) (tg := 144) rfl rfl rfl (by decide) (by decide) (fun h937 => ?_) (fun h937 => ?_)
                          · have _q := h937
                            refine jx_ar (pc' := 145) (st' := [.int (i32 (0))]) rfl rfl rfl rfl ?_
                            refine jx_ld (pc' := 146) (l' := jSto1 L931 3 (.int (i32 (0)))) (st' := []) rfl rfl ?_
                            obtain ⟨L938, eL938⟩ : ∃ q, q = jSto1 L931 3 (.int (i32 (0))) := ⟨_, rfl⟩
                            rw [← eL938]
                            have gL938_0 : jGet L938 0 = some (.ref 66) := eL938 ▸ jg_ne (by decide) gL931_0 rfl
                            have gL938_1 : jGet L938 1 = some (.int (i32 (sy))) := eL938 ▸ jg_ne (by decide) gL931_1 rfl
                            have gL938_2 : jGet L938 2 = some (.int (i32 (0))) := eL938 ▸ jg_ne (by decide) gL931_2 rfl
                            have gL938_3 : jGet L938 3 = some (.int (i32 (0))) := eL938 ▸ jg_eq
                            refine jx_ld (pc' := 147) (l' := L938) (st' := [.ref 66]) rfl (jl_aloadn gL938_0) ?_
                            refine jx_vr (pc' := 150) (as := []) (st := []) rfl rfl rfl rfl ⟨rfl, rfl, Nat.le_of_ble_eq_true rfl⟩ rfl rfl (c_bad (dd := d) (hd := by omega) (hW := hW924)  (fk := fk2_901) (e_fk := show G897 16 = fk2_901 from (e906))    ) (fun o V' hq => ?_)
                            obtain ⟨r939, rfl, rfl, b940, q941⟩ := hq
                            refine .inr ⟨_, rfl, ?_⟩
                            rcases q941 with ⟨rfl, a942⟩ | ⟨rfl, a943⟩
                            · have _q : True := trivial
                              refine jx_if_ne (pc' := 153) (tg := 212) rfl rfl rfl (by decide) (by decide) (fun h944 => ?_) (fun h944 => ?_)
                              · have _q := h944
                                exact c_readProc_at_212p (X := X) (d := d) (Vs := Vs) (sb := sb) (pb := pb) (hvb := hvb) (c0 := c0) (c1 := c1) (G := G) (A := A) (T := T) (ln := ln) (li := li) (at0 := at0) (fk := fk) (nd := nd) (sy := sy) (na := na) (vi := vi) (le := le) (op0 := op0) (tk0 := tk0) (pc0 := pc0) (hd := hd) (hW := hW) (e_ln := e_ln) (e_li := e_li) (e_at0 := e_at0) (e_fk := e_fk) (e_nd := e_nd) (e_sy := e_sy) (e_na := e_na) (e_vi := e_vi) (e_le := e_le) (e_op0 := e_op0) (e_tk0 := e_tk0) (e_pc0 := e_pc0) (i_LT := i_LT) (i_SV := i_SV) (i_PQ := i_PQ) (p_0 := p_0) (p_1 := p_1) (p_2 := p_2) (p_3 := p_3) (p_4 := p_4) (p_5 := p_5) (p_6 := p_6) (p_7 := p_7) (p_8 := p_8) (p_9 := p_9) L938 G897 A923 (sy) (0) (at2_899) (fk2_901) (sy2_771) (na2_772) gL938_0 gL938_1 gL938_2 hW924 hF925 hP927 hS928 hV929 hK930 ((e904)) ((e906)) (((hF903.1 19 rfl).trans ((hF822.1 19 rfl).trans (e779)))) (((hF903.1 28 rfl).trans ((hF822.1 28 rfl).trans (e780)))) (((hF903.1 9 rfl).trans ((hF822.1 9 rfl).trans ((hF776.1 9 rfl).trans ((hF740.1 9 rfl).trans (e_ln)))))) (((hF903.1 29 rfl).trans ((hF822.1 29 rfl).trans ((hF776.1 29 rfl).trans ((hF740.1 29 rfl).trans (e_vi)))))) (((hF903.1 46 rfl).trans ((hF822.1 46 rfl).trans ((hF776.1 46 rfl).trans ((hF740.1 46 rfl).trans (e_pc0)))))) (((hF903.1 31 rfl).trans ((hF822.1 31 rfl).trans ((hF776.1 31 rfl).trans ((hF740.1 31 rfl).trans (e_nd)))))) (by omega) (by omega) (by omega) (by omega) (by omega) (by omega) (by omega) (by omega) (by omega)
                              · have _q := h944
                                exact absurd h944 (by omega)
                            · have _q : True := trivial
                              exfalso
                              omega
                          · have _q := h937
                            exact absurd h937 (by omega)
                        · have _q : True := trivial
                          exfalso
                          omega
                      · have _q : True := trivial
                        exfalso
                        omega
                  · have _q : True := trivial
                    refine jx_ld (pc' := 100) (l' := L801) (st' := [.ref 66]) rfl (jl_aloadn gL801_0) ?_
                    refine jx_ld (pc' := 101) (l' := L801) (st' := [.ref 66, .ref 66]) rfl (jl_aloadn gL801_0) ?_
                    refine jx_ar (pc' := 103) (st' := [.int (i32 (40)), .ref 66, .ref 66]) rfl rfl rfl rfl ?_
                    have b945 : (-2147483648 : Int) ≤ G816 13 ∧ G816 13 ≤ 2147483647 := hW821.1 13
                    refine jx_vr (pc' := 106) (as := [.int (i32 (40))]) (st := [.ref 66]) rfl rfl rfl rfl ⟨rfl, rfl, Nat.le_of_ble_eq_true rfl⟩ rfl rfl (c_is (dd := d) (hd := by omega) (hW := hW821) (k := 40) (tk := tk2_819) (e_tk := show G816 11 = tk2_819 from (e824)) (tn := G816 13) (e_tn := show G816 13 = G816 13 from rfl)  (h_k := ⟨(by decide), (by decide)⟩)  ) (fun o V' hq => ?_)
                    obtain ⟨r946, rfl, rfl, b947, q948⟩ := hq
                    refine .inr ⟨_, rfl, ?_⟩
                    rcases q948 with ⟨rfl, a949, a950, a951⟩ | rfl
                    · have _q : True := trivial
                      refine jx_vr (pc' := 109) (as := [.int (i32 (1))]) (st := []) rfl rfl rfl rfl ⟨rfl, rfl, Nat.le_of_ble_eq_true rfl⟩ rfl rfl (c_need (dd := d) (hd := by omega) (hW := hW821) (g := 1) (ln := ln) (e_ln := show G816 9 = ln from ((hF822.1 9 rfl).trans ((hF776.1 9 rfl).trans ((hF740.1 9 rfl).trans (e_ln))))) (le := le) (e_le := show A817 4 (ln).toNat = le from (congrFun ((hF822.2 4 rfl).trans (((congrFun eA808 4).trans (uA_ne (by decide))).trans ((hF776.2 4 rfl).trans (hF740.2 4 rfl)))) _).trans (e_le)) (at0 := at2_818) (e_at0 := show G816 10 = at2_818 from (e823)) (fk := fk2_820) (e_fk := show G816 16 = fk2_820 from (e825)) (tk0 := tk2_819) (e_tk0 := show G816 11 = tk2_819 from (e824))  (h_g := ⟨(by decide), (by decide)⟩)  (p_0 := by omega)) (fun o V' hq => ?_)
                      obtain ⟨G952, A953, at2_954, tk2_955, fk2_956, rfl, rfl, hW957, hF958, e959, e960, e961, p962, p963, q964⟩ := hq
                      have hF965 := Fr_tr hF829 hF958 (Fr_sub (by decide)) (Fr_sub (by decide))
                      have hP966 := Pf_f hP830 hF958 (by decide)
                      have hS967 := Fx_f hS831 hF958 (by decide)
                      have hV968 := Fx_f hV832 hF958 (by decide)
                      have hK969 := Fx_f hK833 hF958 (by decide)
                      have bat2_954 : (0 : Int) ≤ at2_954 ∧ at2_954 ≤ 3002 := e959 ▸ hW957.1 10
                      have ztk2_955 := tz_b tk2_955
                      have btk2_955 : (0 : Int) ≤ tk2_955 ∧ tk2_955 ≤ 5 := e960 ▸ hW957.1 11
                      have bfk2_956 : (0 : Int) ≤ fk2_956 ∧ fk2_956 ≤ 6 := e961 ▸ hW957.1 16
                      refine .inl ⟨rfl, ?_⟩
                      rcases q964 with ⟨a970, a971, a972, a973⟩ | ⟨a974, a975, a976, a977⟩
                      · have _q : True := trivial
                        refine jx_ld (pc' := 110) (l' := L801) (st' := [.ref 66]) rfl (jl_aloadn gL801_0) ?_
                        refine jr_get (pc' := 113) (i := 47) (v := .ref 96) rfl rfl (by decide) rfl rfl ?_
                        refine jx_ld (pc' := 114) (l' := L801) (st' := [.ref 66, .ref 96]) rfl (jl_aloadn gL801_0) ?_
                        refine jr_get (pc' := 117) (i := 46) (v := .int (i32 (pc0))) rfl rfl (by decide) (rFv_eq (by decide) (show G952 46 = pc0 from ((hF958.1 46 rfl).trans ((hF822.1 46 rfl).trans ((hF776.1 46 rfl).trans ((hF740.1 46 rfl).trans (e_pc0))))))) rfl ?_
                        refine jx_ld (pc' := 118) (l' := L801) (st' := [.ref 66, .int (i32 (pc0)), .ref 96]) rfl (jl_aloadn gL801_0) ?_
                        refine jr_get (pc' := 121) (i := 19) (v := .int (i32 (sy2_771))) rfl rfl (by decide) (rFv_eq (by decide) (show G952 19 = sy2_771 from ((hF958.1 19 rfl).trans ((hF822.1 19 rfl).trans (e779))))) rfl ?_
                        refine jr_st (pc' := 122) (i := 29) (m := 25) (z := pc0) (y := sy2_771) rfl (by decide) rfl (by decide) (by omega) (by omega) rfl ?_
                        have hW979 : Wk G952 (uA A953 29 (pc0).toNat (sy2_771)) := Wk_a hW957 (show (0 : Int) ≤ sy2_771 by omega) (show sy2_771 ≤ (202 : Int) by omega)
                        have hF980 := Fr_a (z := sy2_771) (k := 29) (n := (pc0).toNat) hF965 (by decide)
                        obtain ⟨A978, eA978⟩ : ∃ q, q = uA A953 29 (pc0).toNat (sy2_771) := ⟨_, rfl⟩
                        rw [← eA978]
                        rw [← eA978] at hW979 hF980
                        have q981 : A978 29 (pc0).toNat = sy2_771 := by rw [eA978]; exact uA_eq
                        have hP982 : Pf nd A A978 := eA978 ▸ Pf_n hP966 rfl
                        have hS983 : Fx sr (sy) A A978 := eA978 ▸ Fx_n hS967 rfl
                        have hV984 : Fx [14] (vi) A A978 := eA978 ▸ Fx_n hV968 rfl
                        have hK985 : Fx [29, 30, 31] (pc0) A A978 := eA978 ▸ Fx_a hK969 (z := pc0) (by omega) (by omega)
                        refine jx_ar (pc' := 123) (st' := [.int (i32 (0))]) rfl rfl rfl rfl ?_
                        refine jx_ld (pc' := 124) (l' := jSto1 L801 2 (.int (i32 (0)))) (st' := []) rfl rfl ?_
                        obtain ⟨L986, eL986⟩ : ∃ q, q = jSto1 L801 2 (.int (i32 (0))) := ⟨_, rfl⟩
                        rw [← eL986]
                        have gL986_0 : jGet L986 0 = some (.ref 66) := eL986 ▸ jg_ne (by decide) gL801_0 rfl
                        have gL986_1 : jGet L986 1 = some (.int (i32 (sy))) := eL986 ▸ jg_ne (by decide) gL801_1 rfl
                        have gL986_2 : jGet L986 2 = some (.int (i32 (0))) := eL986 ▸ jg_eq
                        refine jx_ld (pc' := 125) (l' := L986) (st' := [.ref 66]) rfl (jl_aloadn gL986_0) ?_
                        refine jx_vr (pc' := 128) (as := []) (st := []) rfl rfl rfl rfl ⟨rfl, rfl, Nat.le_of_ble_eq_true rfl⟩ rfl rfl (c_bad (dd := d) (hd := by omega) (hW := hW979)  (fk := fk2_956) (e_fk := show G952 16 = fk2_956 from (e961))    ) (fun o V' hq => ?_)
                        obtain ⟨r987, rfl, rfl, b988, q989⟩ := hq
                        refine .inr ⟨_, rfl, ?_⟩
                        rcases q989 with ⟨rfl, a990⟩ | ⟨rfl, a991⟩
                        · have _q : True := trivial
                          refine jx_if_ne (pc' := 131) (tg := 144) rfl rfl rfl (by decide) (by decide) (fun h992 => ?_) (fun h992 => ?_)
                          · have _q := h992
                            refine jx_ar (pc' := 145) (st' := [.int (i32 (0))]) rfl rfl rfl rfl ?_
                            refine jx_ld (pc' := 146) (l' := jSto1 L986 3 (.int (i32 (0)))) (st' := []) rfl rfl ?_
                            obtain ⟨L993, eL993⟩ : ∃ q, q = jSto1 L986 3 (.int (i32 (0))) := ⟨_, rfl⟩
                            rw [← eL993]
                            have gL993_0 : jGet L993 0 = some (.ref 66) := eL993 ▸ jg_ne (by decide) gL986_0 rfl
                            have gL993_1 : jGet L993 1 = some (.int (i32 (sy))) := eL993 ▸ jg_ne (by decide) gL986_1 rfl
                            have gL993_2 : jGet L993 2 = some (.int (i32 (0))) := eL993 ▸ jg_ne (by decide) gL986_2 rfl
                            have gL993_3 : jGet L993 3 = some (.int (i32 (0))) := eL993 ▸ jg_eq
                            refine jx_ld (pc' := 147) (l' := L993) (st' := [.ref 66]) rfl (jl_aloadn gL993_0) ?_
                            refine jx_vr (pc' := 150) (as := []) (st := []) rfl rfl rfl rfl ⟨rfl, rfl, Nat.le_of_ble_eq_true rfl⟩ rfl rfl (c_bad (dd := d) (hd := by omega) (hW := hW979)  (fk := fk2_956) (e_fk := show G952 16 = fk2_956 from (e961))    ) (fun o V' hq => ?_)
                            obtain ⟨r994, rfl, rfl, b995, q996⟩ := hq
                            refine .inr ⟨_, rfl, ?_⟩
                            rcases q996 with ⟨rfl, a997⟩ | ⟨rfl, a998⟩
                            · have _q : True := trivial
                              refine jx_if_ne (pc' := 153) (tg := 212) rfl rfl rfl (by decide) (by decide) (fun h999 => ?_) (fun h999 => ?_)
                              · have _q := h999
                                exact c_readProc_at_212p (X := X) (d := d) (Vs := Vs) (sb := sb) (pb := pb) (hvb := hvb) (c0 := c0) (c1 := c1) (G := G) (A := A) (T := T) (ln := ln) (li := li) (at0 := at0) (fk := fk) (nd := nd) (sy := sy) (na := na) (vi := vi) (le := le) (op0 := op0) (tk0 := tk0) (pc0 := pc0) (hd := hd) (hW := hW) (e_ln := e_ln) (e_li := e_li) (e_at0 := e_at0) (e_fk := e_fk) (e_nd := e_nd) (e_sy := e_sy) (e_na := e_na) (e_vi := e_vi) (e_le := e_le) (e_op0 := e_op0) (e_tk0 := e_tk0) (e_pc0 := e_pc0) (i_LT := i_LT) (i_SV := i_SV) (i_PQ := i_PQ) (p_0 := p_0) (p_1 := p_1) (p_2 := p_2) (p_3 := p_3) (p_4 := p_4) (p_5 := p_5) (p_6 := p_6) (p_7 := p_7) (p_8 := p_8) (p_9 := p_9) L993 G952 A978 (sy) (0) (at2_954) (fk2_956) (sy2_771) (na2_772) gL993_0 gL993_1 gL993_2 hW979 hF980 hP982 hS983 hV984 hK985 ((e959)) ((e961)) (((hF958.1 19 rfl).trans ((hF822.1 19 rfl).trans (e779)))) (((hF958.1 28 rfl).trans ((hF822.1 28 rfl).trans (e780)))) (((hF958.1 9 rfl).trans ((hF822.1 9 rfl).trans ((hF776.1 9 rfl).trans ((hF740.1 9 rfl).trans (e_ln)))))) (((hF958.1 29 rfl).trans ((hF822.1 29 rfl).trans ((hF776.1 29 rfl).trans ((hF740.1 29 rfl).trans (e_vi)))))) (((hF958.1 46 rfl).trans ((hF822.1 46 rfl).trans ((hF776.1 46 rfl).trans ((hF740.1 46 rfl).trans (e_pc0)))))) (((hF958.1 31 rfl).trans ((hF822.1 31 rfl).trans ((hF776.1 31 rfl).trans ((hF740.1 31 rfl).trans (e_nd)))))) (by omega) (by omega) (by omega) (by omega) (by omega) (by omega) (by omega) (by omega) (by omega)
                              · have _q := h999
                                exact absurd h999 (by omega)
                            · have _q : True := trivial
                              exfalso
                              omega
                          · have _q := h992
                            exact absurd h992 (by omega)
                        · have _q : True := trivial
                          exfalso
                          omega
                      · have _q : True := trivial
                        refine jx_ld (pc' := 110) (l' := L801) (st' := [.ref 66]) rfl (jl_aloadn gL801_0) ?_
                        refine jr_get (pc' := 113) (i := 47) (v := .ref 96) rfl rfl (by decide) rfl rfl ?_
                        refine jx_ld (pc' := 114) (l' := L801) (st' := [.ref 66, .ref 96]) rfl (jl_aloadn gL801_0) ?_
                        refine jr_get (pc' := 117) (i := 46) (v := .int (i32 (pc0))) rfl rfl (by decide) (rFv_eq (by decide) (show G952 46 = pc0 from ((hF958.1 46 rfl).trans ((hF822.1 46 rfl).trans ((hF776.1 46 rfl).trans ((hF740.1 46 rfl).trans (e_pc0))))))) rfl ?_
                        refine jx_ld (pc' := 118) (l' := L801) (st' := [.ref 66, .int (i32 (pc0)), .ref 96]) rfl (jl_aloadn gL801_0) ?_
                        refine jr_get (pc' := 121) (i := 19) (v := .int (i32 (sy2_771))) rfl rfl (by decide) (rFv_eq (by decide) (show G952 19 = sy2_771 from ((hF958.1 19 rfl).trans ((hF822.1 19 rfl).trans (e779))))) rfl ?_
                        refine jr_st (pc' := 122) (i := 29) (m := 25) (z := pc0) (y := sy2_771) rfl (by decide) rfl (by decide) (by omega) (by omega) rfl ?_
                        have hW1001 : Wk G952 (uA A953 29 (pc0).toNat (sy2_771)) := Wk_a hW957 (show (0 : Int) ≤ sy2_771 by omega) (show sy2_771 ≤ (202 : Int) by omega)
                        have hF1002 := Fr_a (z := sy2_771) (k := 29) (n := (pc0).toNat) hF965 (by decide)
                        obtain ⟨A1000, eA1000⟩ : ∃ q, q = uA A953 29 (pc0).toNat (sy2_771) := ⟨_, rfl⟩
                        rw [← eA1000]
                        rw [← eA1000] at hW1001 hF1002
                        have q1003 : A1000 29 (pc0).toNat = sy2_771 := by rw [eA1000]; exact uA_eq
                        have hP1004 : Pf nd A A1000 := eA1000 ▸ Pf_n hP966 rfl
                        have hS1005 : Fx sr (sy) A A1000 := eA1000 ▸ Fx_n hS967 rfl
                        have hV1006 : Fx [14] (vi) A A1000 := eA1000 ▸ Fx_n hV968 rfl
                        have hK1007 : Fx [29, 30, 31] (pc0) A A1000 := eA1000 ▸ Fx_a hK969 (z := pc0) (by omega) (by omega)
                        refine jx_ar (pc' := 123) (st' := [.int (i32 (0))]) rfl rfl rfl rfl ?_
                        refine jx_ld (pc' := 124) (l' := jSto1 L801 2 (.int (i32 (0)))) (st' := []) rfl rfl ?_
                        obtain ⟨L1008, eL1008⟩ : ∃ q, q = jSto1 L801 2 (.int (i32 (0))) := ⟨_, rfl⟩
                        rw [← eL1008]
                        have gL1008_0 : jGet L1008 0 = some (.ref 66) := eL1008 ▸ jg_ne (by decide) gL801_0 rfl
                        have gL1008_1 : jGet L1008 1 = some (.int (i32 (sy))) := eL1008 ▸ jg_ne (by decide) gL801_1 rfl
                        have gL1008_2 : jGet L1008 2 = some (.int (i32 (0))) := eL1008 ▸ jg_eq
                        refine jx_ld (pc' := 125) (l' := L1008) (st' := [.ref 66]) rfl (jl_aloadn gL1008_0) ?_
                        refine jx_vr (pc' := 128) (as := []) (st := []) rfl rfl rfl rfl ⟨rfl, rfl, Nat.le_of_ble_eq_true rfl⟩ rfl rfl (c_bad (dd := d) (hd := by omega) (hW := hW1001)  (fk := fk2_956) (e_fk := show G952 16 = fk2_956 from (e961))    ) (fun o V' hq => ?_)
                        obtain ⟨r1009, rfl, rfl, b1010, q1011⟩ := hq
                        refine .inr ⟨_, rfl, ?_⟩
                        rcases q1011 with ⟨rfl, a1012⟩ | ⟨rfl, a1013⟩
                        · have _q : True := trivial
                          exfalso
                          omega
                        · have _q : True := trivial
                          refine jx_if_ne (pc' := 131) (tg := 144) rfl rfl rfl (by decide) (by decide) (fun h1014 => ?_) (fun h1014 => ?_)
                          · have _q := h1014
                            exact absurd h1014 (by omega)
                          · have _q := h1014
                            refine jx_ld (pc' := 132) (l' := L1008) (st' := [.ref 66]) rfl (jl_aloadn gL1008_0) ?_
                            refine jx_ar (pc' := 134) (st' := [.int (i32 (41)), .ref 66]) rfl rfl rfl rfl ?_
                            have b1015 : (-2147483648 : Int) ≤ G952 13 ∧ G952 13 ≤ 2147483647 := hW957.1 13
                            refine jx_vr (pc' := 137) (as := [.int (i32 (41))]) (st := []) rfl rfl rfl rfl ⟨rfl, rfl, Nat.le_of_ble_eq_true rfl⟩ rfl rfl (c_is (dd := d) (hd := by omega) (hW := hW1001) (k := 41) (tk := tk2_955) (e_tk := show G952 11 = tk2_955 from (e960)) (tn := G952 13) (e_tn := show G952 13 = G952 13 from rfl)  (h_k := ⟨(by decide), (by decide)⟩)  ) (fun o V' hq => ?_)
                            obtain ⟨r1016, rfl, rfl, b1017, q1018⟩ := hq
                            refine .inr ⟨_, rfl, ?_⟩
                            rcases q1018 with ⟨rfl, a1019, a1020, a1021⟩ | rfl
                            · have _q : True := trivial
                              refine jx_if_ne (pc' := 140) (tg := 144) rfl rfl rfl (by decide) (by decide) (fun h1022 => ?_) (fun h1022 => ?_)
                              · have _q := h1022
                                refine jx_ar (pc' := 145) (st' := [.int (i32 (0))]) rfl rfl rfl rfl ?_
                                refine jx_ld (pc' := 146) (l' := jSto1 L1008 3 (.int (i32 (0)))) (st' := []) rfl rfl ?_
                                obtain ⟨L1023, eL1023⟩ : ∃ q, q = jSto1 L1008 3 (.int (i32 (0))) := ⟨_, rfl⟩
                                rw [← eL1023]
                                have gL1023_0 : jGet L1023 0 = some (.ref 66) := eL1023 ▸ jg_ne (by decide) gL1008_0 rfl
                                have gL1023_1 : jGet L1023 1 = some (.int (i32 (sy))) := eL1023 ▸ jg_ne (by decide) gL1008_1 rfl
                                have gL1023_2 : jGet L1023 2 = some (.int (i32 (0))) := eL1023 ▸ jg_ne (by decide) gL1008_2 rfl
                                have gL1023_3 : jGet L1023 3 = some (.int (i32 (0))) := eL1023 ▸ jg_eq
                                exact c_readProc_at_146 (X := X) (d := d) (Vs := Vs) (sb := sb) (pb := pb) (hvb := hvb) (c0 := c0) (c1 := c1) (G := G) (A := A) (T := T) (ln := ln) (li := li) (at0 := at0) (fk := fk) (nd := nd) (sy := sy) (na := na) (vi := vi) (le := le) (op0 := op0) (tk0 := tk0) (pc0 := pc0) (hd := hd) (hW := hW) (e_ln := e_ln) (e_li := e_li) (e_at0 := e_at0) (e_fk := e_fk) (e_nd := e_nd) (e_sy := e_sy) (e_na := e_na) (e_vi := e_vi) (e_le := e_le) (e_op0 := e_op0) (e_tk0 := e_tk0) (e_pc0 := e_pc0) (i_LT := i_LT) (i_SV := i_SV) (i_PQ := i_PQ) (p_0 := p_0) (p_1 := p_1) (p_2 := p_2) (p_3 := p_3) (p_4 := p_4) (p_5 := p_5) (p_6 := p_6) (p_7 := p_7) (p_8 := p_8) (p_9 := p_9) _ L1023 G952 A1000 (sy) (0) (0) (at2_954) (tk2_955) (fk2_956) (sy2_771) (na2_772) (sy2_771) (yk2_774) (pc0) rfl gL1023_0 gL1023_1 gL1023_2 gL1023_3 hW1001 hF1002 hP1004 hS1005 hV1006 hK1007 ((e959)) ((e960)) ((e961)) (((hF958.1 19 rfl).trans ((hF822.1 19 rfl).trans (e779)))) (((hF958.1 28 rfl).trans ((hF822.1 28 rfl).trans (e780)))) ((q1003)) ((congrFun (((congrFun eA1000 7).trans (uA_ne (by decide))).trans ((hF958.2 7 rfl).trans ((hF822.2 7 rfl).trans ((congrFun eA808 7).trans (uA_ne (by decide)))))) _).trans (e782)) ((congrFun (((congrFun eA1000 12).trans (uA_ne (by decide))).trans ((hF958.2 12 rfl).trans (hF822.2 12 rfl))) _).trans (q811)) (((hF958.1 9 rfl).trans ((hF822.1 9 rfl).trans ((hF776.1 9 rfl).trans ((hF740.1 9 rfl).trans (e_ln)))))) (((hF958.1 29 rfl).trans ((hF822.1 29 rfl).trans ((hF776.1 29 rfl).trans ((hF740.1 29 rfl).trans (e_vi)))))) (((hF958.1 46 rfl).trans ((hF822.1 46 rfl).trans ((hF776.1 46 rfl).trans ((hF740.1 46 rfl).trans (e_pc0)))))) (((hF958.1 31 rfl).trans ((hF822.1 31 rfl).trans ((hF776.1 31 rfl).trans ((hF740.1 31 rfl).trans (e_nd)))))) (by omega) (by omega) (by omega) (by omega) (by omega) (by omega) (by omega) (by omega) (by omega) (by omega) (by omega) (wM_nil) (by omega) (by omega) (by omega) (by omega) (by omega)
                              · have _q := h1022
                                exact absurd h1022 (by omega)
                            · have _q : True := trivial
                              refine jx_if_ne (pc' := 140) (tg := 144) rfl rfl rfl (by decide) (by decide) (fun h1024 => ?_) (fun h1024 => ?_)
                              · have _q := h1024
                                exact absurd h1024 (by omega)
                              · have _q := h1024
                                refine jx_ar (pc' := 141) (st' := [.int (i32 (1))]) rfl rfl rfl rfl ?_
                                refine jx_go (tg := 145) rfl rfl ?_
                                refine jx_ld (pc' := 146) (l' := jSto1 L1008 3 (.int (i32 (1)))) (st' := []) rfl rfl ?_
                                obtain ⟨L1025, eL1025⟩ : ∃ q, q = jSto1 L1008 3 (.int (i32 (1))) := ⟨_, rfl⟩
                                rw [← eL1025]
                                have gL1025_0 : jGet L1025 0 = some (.ref 66) := eL1025 ▸ jg_ne (by decide) gL1008_0 rfl
                                have gL1025_1 : jGet L1025 1 = some (.int (i32 (sy))) := eL1025 ▸ jg_ne (by decide) gL1008_1 rfl
                                have gL1025_2 : jGet L1025 2 = some (.int (i32 (0))) := eL1025 ▸ jg_ne (by decide) gL1008_2 rfl
                                have gL1025_3 : jGet L1025 3 = some (.int (i32 (1))) := eL1025 ▸ jg_eq
                                exact c_readProc_at_146 (X := X) (d := d) (Vs := Vs) (sb := sb) (pb := pb) (hvb := hvb) (c0 := c0) (c1 := c1) (G := G) (A := A) (T := T) (ln := ln) (li := li) (at0 := at0) (fk := fk) (nd := nd) (sy := sy) (na := na) (vi := vi) (le := le) (op0 := op0) (tk0 := tk0) (pc0 := pc0) (hd := hd) (hW := hW) (e_ln := e_ln) (e_li := e_li) (e_at0 := e_at0) (e_fk := e_fk) (e_nd := e_nd) (e_sy := e_sy) (e_na := e_na) (e_vi := e_vi) (e_le := e_le) (e_op0 := e_op0) (e_tk0 := e_tk0) (e_pc0 := e_pc0) (i_LT := i_LT) (i_SV := i_SV) (i_PQ := i_PQ) (p_0 := p_0) (p_1 := p_1) (p_2 := p_2) (p_3 := p_3) (p_4 := p_4) (p_5 := p_5) (p_6 := p_6) (p_7 := p_7) (p_8 := p_8) (p_9 := p_9) _ L1025 G952 A1000 (sy) (0) (1) (at2_954) (tk2_955) (fk2_956) (sy2_771) (na2_772) (sy2_771) (yk2_774) (pc0) rfl gL1025_0 gL1025_1 gL1025_2 gL1025_3 hW1001 hF1002 hP1004 hS1005 hV1006 hK1007 ((e959)) ((e960)) ((e961)) (((hF958.1 19 rfl).trans ((hF822.1 19 rfl).trans (e779)))) (((hF958.1 28 rfl).trans ((hF822.1 28 rfl).trans (e780)))) ((q1003)) ((congrFun (((congrFun eA1000 7).trans (uA_ne (by decide))).trans ((hF958.2 7 rfl).trans ((hF822.2 7 rfl).trans ((congrFun eA808 7).trans (uA_ne (by decide)))))) _).trans (e782)) ((congrFun (((congrFun eA1000 12).trans (uA_ne (by decide))).trans ((hF958.2 12 rfl).trans (hF822.2 12 rfl))) _).trans (q811)) (((hF958.1 9 rfl).trans ((hF822.1 9 rfl).trans ((hF776.1 9 rfl).trans ((hF740.1 9 rfl).trans (e_ln)))))) (((hF958.1 29 rfl).trans ((hF822.1 29 rfl).trans ((hF776.1 29 rfl).trans ((hF740.1 29 rfl).trans (e_vi)))))) (((hF958.1 46 rfl).trans ((hF822.1 46 rfl).trans ((hF776.1 46 rfl).trans ((hF740.1 46 rfl).trans (e_pc0)))))) (((hF958.1 31 rfl).trans ((hF822.1 31 rfl).trans ((hF776.1 31 rfl).trans ((hF740.1 31 rfl).trans (e_nd)))))) (by omega) (by omega) (by omega) (by omega) (by omega) (by omega) (by omega) (by omega) (by omega) (by omega) (by omega) (wM_nil) (by omega) (by omega) (by omega) (by omega) (by omega)
                    · have _q : True := trivial
                      refine jx_vr (pc' := 109) (as := [.int (i32 (0))]) (st := []) rfl rfl rfl rfl ⟨rfl, rfl, Nat.le_of_ble_eq_true rfl⟩ rfl rfl (c_need (dd := d) (hd := by omega) (hW := hW821) (g := 0) (ln := ln) (e_ln := show G816 9 = ln from ((hF822.1 9 rfl).trans ((hF776.1 9 rfl).trans ((hF740.1 9 rfl).trans (e_ln))))) (le := le) (e_le := show A817 4 (ln).toNat = le from (congrFun ((hF822.2 4 rfl).trans (((congrFun eA808 4).trans (uA_ne (by decide))).trans ((hF776.2 4 rfl).trans (hF740.2 4 rfl)))) _).trans (e_le)) (at0 := at2_818) (e_at0 := show G816 10 = at2_818 from (e823)) (fk := fk2_820) (e_fk := show G816 16 = fk2_820 from (e825)) (tk0 := tk2_819) (e_tk0 := show G816 11 = tk2_819 from (e824))  (h_g := ⟨(by decide), (by decide)⟩)  (p_0 := by omega)) (fun o V' hq => ?_)
                      obtain ⟨G1026, A1027, at2_1028, tk2_1029, fk2_1030, rfl, rfl, hW1031, hF1032, e1033, e1034, e1035, p1036, p1037, q1038⟩ := hq
                      have hF1039 := Fr_tr hF829 hF1032 (Fr_sub (by decide)) (Fr_sub (by decide))
                      have hP1040 := Pf_f hP830 hF1032 (by decide)
                      have hS1041 := Fx_f hS831 hF1032 (by decide)
                      have hV1042 := Fx_f hV832 hF1032 (by decide)
                      have hK1043 := Fx_f hK833 hF1032 (by decide)
                      have bat2_1028 : (0 : Int) ≤ at2_1028 ∧ at2_1028 ≤ 3002 := e1033 ▸ hW1031.1 10
                      have ztk2_1029 := tz_b tk2_1029
                      have btk2_1029 : (0 : Int) ≤ tk2_1029 ∧ tk2_1029 ≤ 5 := e1034 ▸ hW1031.1 11
                      have bfk2_1030 : (0 : Int) ≤ fk2_1030 ∧ fk2_1030 ≤ 6 := e1035 ▸ hW1031.1 16
                      refine .inl ⟨rfl, ?_⟩
                      rcases q1038 with ⟨a1044, a1045, a1046, a1047⟩ | ⟨a1048, a1049, a1050, a1051⟩
                      · have _q : True := trivial
                        refine jx_ld (pc' := 110) (l' := L801) (st' := [.ref 66]) rfl (jl_aloadn gL801_0) ?_
                        refine jr_get (pc' := 113) (i := 47) (v := .ref 96) rfl rfl (by decide) rfl rfl ?_
                        refine jx_ld (pc' := 114) (l' := L801) (st' := [.ref 66, .ref 96]) rfl (jl_aloadn gL801_0) ?_
                        refine jr_get (pc' := 117) (i := 46) (v := .int (i32 (pc0))) rfl rfl (by decide) (rFv_eq (by decide) (show G1026 46 = pc0 from ((hF1032.1 46 rfl).trans ((hF822.1 46 rfl).trans ((hF776.1 46 rfl).trans ((hF740.1 46 rfl).trans (e_pc0))))))) rfl ?_
                        refine jx_ld (pc' := 118) (l' := L801) (st' := [.ref 66, .int (i32 (pc0)), .ref 96]) rfl (jl_aloadn gL801_0) ?_
                        refine jr_get (pc' := 121) (i := 19) (v := .int (i32 (sy2_771))) rfl rfl (by decide) (rFv_eq (by decide) (show G1026 19 = sy2_771 from ((hF1032.1 19 rfl).trans ((hF822.1 19 rfl).trans (e779))))) rfl ?_
                        refine jr_st (pc' := 122) (i := 29) (m := 25) (z := pc0) (y := sy2_771) rfl (by decide) rfl (by decide) (by omega) (by omega) rfl ?_
                        have hW1053 : Wk G1026 (uA A1027 29 (pc0).toNat (sy2_771)) := Wk_a hW1031 (show (0 : Int) ≤ sy2_771 by omega) (show sy2_771 ≤ (202 : Int) by omega)
                        have hF1054 := Fr_a (z := sy2_771) (k := 29) (n := (pc0).toNat) hF1039 (by decide)
                        obtain ⟨A1052, eA1052⟩ : ∃ q, q = uA A1027 29 (pc0).toNat (sy2_771) := ⟨_, rfl⟩
                        rw [← eA1052]
                        rw [← eA1052] at hW1053 hF1054
                        have q1055 : A1052 29 (pc0).toNat = sy2_771 := by rw [eA1052]; exact uA_eq
                        have hP1056 : Pf nd A A1052 := eA1052 ▸ Pf_n hP1040 rfl
                        have hS1057 : Fx sr (sy) A A1052 := eA1052 ▸ Fx_n hS1041 rfl
                        have hV1058 : Fx [14] (vi) A A1052 := eA1052 ▸ Fx_n hV1042 rfl
                        have hK1059 : Fx [29, 30, 31] (pc0) A A1052 := eA1052 ▸ Fx_a hK1043 (z := pc0) (by omega) (by omega)
                        refine jx_ar (pc' := 123) (st' := [.int (i32 (0))]) rfl rfl rfl rfl ?_
                        refine jx_ld (pc' := 124) (l' := jSto1 L801 2 (.int (i32 (0)))) (st' := []) rfl rfl ?_
                        obtain ⟨L1060, eL1060⟩ : ∃ q, q = jSto1 L801 2 (.int (i32 (0))) := ⟨_, rfl⟩
                        rw [← eL1060]
                        have gL1060_0 : jGet L1060 0 = some (.ref 66) := eL1060 ▸ jg_ne (by decide) gL801_0 rfl
                        have gL1060_1 : jGet L1060 1 = some (.int (i32 (sy))) := eL1060 ▸ jg_ne (by decide) gL801_1 rfl
                        have gL1060_2 : jGet L1060 2 = some (.int (i32 (0))) := eL1060 ▸ jg_eq
                        refine jx_ld (pc' := 125) (l' := L1060) (st' := [.ref 66]) rfl (jl_aloadn gL1060_0) ?_
                        refine jx_vr (pc' := 128) (as := []) (st := []) rfl rfl rfl rfl ⟨rfl, rfl, Nat.le_of_ble_eq_true rfl⟩ rfl rfl (c_bad (dd := d) (hd := by omega) (hW := hW1053)  (fk := fk2_1030) (e_fk := show G1026 16 = fk2_1030 from (e1035))    ) (fun o V' hq => ?_)
                        obtain ⟨r1061, rfl, rfl, b1062, q1063⟩ := hq
                        refine .inr ⟨_, rfl, ?_⟩
                        rcases q1063 with ⟨rfl, a1064⟩ | ⟨rfl, a1065⟩
                        · have _q : True := trivial
                          refine jx_if_ne (pc' := 131) (tg := 144) rfl rfl rfl (by decide) (by decide) (fun h1066 => ?_) (fun h1066 => ?_)
                          · have _q := h1066
                            refine jx_ar (pc' := 145) (st' := [.int (i32 (0))]) rfl rfl rfl rfl ?_
                            refine jx_ld (pc' := 146) (l' := jSto1 L1060 3 (.int (i32 (0)))) (st' := []) rfl rfl ?_
                            obtain ⟨L1067, eL1067⟩ : ∃ q, q = jSto1 L1060 3 (.int (i32 (0))) := ⟨_, rfl⟩
                            rw [← eL1067]
                            have gL1067_0 : jGet L1067 0 = some (.ref 66) := eL1067 ▸ jg_ne (by decide) gL1060_0 rfl
                            have gL1067_1 : jGet L1067 1 = some (.int (i32 (sy))) := eL1067 ▸ jg_ne (by decide) gL1060_1 rfl
                            have gL1067_2 : jGet L1067 2 = some (.int (i32 (0))) := eL1067 ▸ jg_ne (by decide) gL1060_2 rfl
                            have gL1067_3 : jGet L1067 3 = some (.int (i32 (0))) := eL1067 ▸ jg_eq
                            refine jx_ld (pc' := 147) (l' := L1067) (st' := [.ref 66]) rfl (jl_aloadn gL1067_0) ?_
                            refine jx_vr (pc' := 150) (as := []) (st := []) rfl rfl rfl rfl ⟨rfl, rfl, Nat.le_of_ble_eq_true rfl⟩ rfl rfl (c_bad (dd := d) (hd := by omega) (hW := hW1053)  (fk := fk2_1030) (e_fk := show G1026 16 = fk2_1030 from (e1035))    ) (fun o V' hq => ?_)
                            obtain ⟨r1068, rfl, rfl, b1069, q1070⟩ := hq
                            refine .inr ⟨_, rfl, ?_⟩
                            rcases q1070 with ⟨rfl, a1071⟩ | ⟨rfl, a1072⟩
                            · have _q : True := trivial
                              refine jx_if_ne (pc' := 153) (tg := 212) rfl rfl rfl (by decide) (by decide) (fun h1073 => ?_) (fun h1073 => ?_)
                              · have _q := h1073
                                exact c_readProc_at_212p (X := X) (d := d) (Vs := Vs) (sb := sb) (pb := pb) (hvb := hvb) (c0 := c0) (c1 := c1) (G := G) (A := A) (T := T) (ln := ln) (li := li) (at0 := at0) (fk := fk) (nd := nd) (sy := sy) (na := na) (vi := vi) (le := le) (op0 := op0) (tk0 := tk0) (pc0 := pc0) (hd := hd) (hW := hW) (e_ln := e_ln) (e_li := e_li) (e_at0 := e_at0) (e_fk := e_fk) (e_nd := e_nd) (e_sy := e_sy) (e_na := e_na) (e_vi := e_vi) (e_le := e_le) (e_op0 := e_op0) (e_tk0 := e_tk0) (e_pc0 := e_pc0) (i_LT := i_LT) (i_SV := i_SV) (i_PQ := i_PQ) (p_0 := p_0) (p_1 := p_1) (p_2 := p_2) (p_3 := p_3) (p_4 := p_4) (p_5 := p_5) (p_6 := p_6) (p_7 := p_7) (p_8 := p_8) (p_9 := p_9) L1067 G1026 A1052 (sy) (0) (at2_1028) (fk2_1030) (sy2_771) (na2_772) gL1067_0 gL1067_1 gL1067_2 hW1053 hF1054 hP1056 hS1057 hV1058 hK1059 ((e1033)) ((e1035)) (((hF1032.1 19 rfl).trans ((hF822.1 19 rfl).trans (e779)))) (((hF1032.1 28 rfl).trans ((hF822.1 28 rfl).trans (e780)))) (((hF1032.1 9 rfl).trans ((hF822.1 9 rfl).trans ((hF776.1 9 rfl).trans ((hF740.1 9 rfl).trans (e_ln)))))) (((hF1032.1 29 rfl).trans ((hF822.1 29 rfl).trans ((hF776.1 29 rfl).trans ((hF740.1 29 rfl).trans (e_vi)))))) (((hF1032.1 46 rfl).trans ((hF822.1 46 rfl).trans ((hF776.1 46 rfl).trans ((hF740.1 46 rfl).trans (e_pc0)))))) (((hF1032.1 31 rfl).trans ((hF822.1 31 rfl).trans ((hF776.1 31 rfl).trans ((hF740.1 31 rfl).trans (e_nd)))))) (by omega) (by omega) (by omega) (by omega) (by omega) (by omega) (by omega) (by omega) (by omega)
                              · have _q := h1073
                                exact absurd h1073 (by omega)
                            · have _q : True := trivial
                              exfalso
                              omega
                          · have _q := h1066
                            exact absurd h1066 (by omega)
                        · have _q : True := trivial
                          exfalso
                          omega
                      · have _q : True := trivial
                        exfalso
                        omega
                · have _q := h807
                  exact absurd h807 (by omega)
            · have _q : True := trivial
              refine jx_ld (pc' := 76) (l' := jSto1 [(0, .ref 66)] 1 (.int (i32 (0)))) (st' := []) rfl rfl ?_
              obtain ⟨L1074, eL1074⟩ : ∃ q, q = jSto1 [(0, .ref 66)] 1 (.int (i32 (0))) := ⟨_, rfl⟩
              rw [← eL1074]
              have gL1074_0 : jGet L1074 0 = some (.ref 66) := eL1074 ▸ jg_ne (by decide) (rfl : jGet [(0, .ref 66)] 0 = some (.ref 66)) rfl
              have gL1074_1 : jGet L1074 1 = some (.int (i32 (0))) := eL1074 ▸ jg_eq
              refine jx_ld (pc' := 77) (l' := L1074) (st' := [.ref 66]) rfl (jl_aloadn gL1074_0) ?_
              refine jx_vr (pc' := 80) (as := []) (st := []) rfl rfl rfl rfl ⟨rfl, rfl, Nat.le_of_ble_eq_true rfl⟩ rfl rfl (c_bad (dd := d) (hd := by omega) (hW := hW775)  (fk := fk2_773) (e_fk := show G768 16 = fk2_773 from (e781))    ) (fun o V' hq => ?_)
              obtain ⟨r1075, rfl, rfl, b1076, q1077⟩ := hq
              refine .inr ⟨_, rfl, ?_⟩
              rcases q1077 with ⟨rfl, a1078⟩ | ⟨rfl, a1079⟩
              · have _q : True := trivial
                refine jx_if_eq (pc' := 83) (tg := 84) rfl rfl rfl (by decide) (by decide) (fun h1080 => ?_) (fun h1080 => ?_)
                · have _q := h1080
                  exact absurd h1080 (by omega)
                · have _q := h1080
                  refine jx_rt (v := none) rfl rfl rfl rfl rfl rfl ?_
                  exact ⟨_, _, ln, at2_737, fk2_773, nd, sy2_771, na2_772, vi, A 3 (ln).toNat, pc0, rfl, rfl, hW775, hF784, hP785, hS786, hV787, hK788, ((hF776.1 9 rfl).trans ((hF740.1 9 rfl).trans (e_ln))), ((hF776.1 10 rfl).trans (e741)), (e781), ((hF776.1 31 rfl).trans ((hF740.1 31 rfl).trans (e_nd))), (e779), (e780), ((hF776.1 29 rfl).trans ((hF740.1 29 rfl).trans (e_vi))), (congrFun ((hF776.2 3 rfl).trans (hF740.2 3 rfl)) _), ((hF776.1 46 rfl).trans ((hF740.1 46 rfl).trans (e_pc0))), by omega, by omega, by omega, by omega, by first | exact Or.inl (by omega)⟩
              · have _q : True := trivial
                exfalso
                omega
          · have _q := h767
            refine jx_ld (pc' := 59) (l' := [(0, .ref 66)]) (st' := [.ref 66]) rfl (jl_aloadn rfl) ?_
            refine jx_ar (pc' := 61) (st' := [.int (i32 (6)), .ref 66]) rfl rfl rfl rfl ?_
            refine jx_ld (pc' := 62) (l' := [(0, .ref 66)]) (st' := [.ref 66, .int (i32 (6)), .ref 66]) rfl (jl_aloadn rfl) ?_
            have b1081 : (-3000 : Int) ≤ G735 12 ∧ G735 12 ≤ 3002 := hW739.1 12
            refine jr_get (pc' := 65) (i := 12) (v := .int (i32 (G735 12))) rfl rfl (by decide) rfl rfl ?_
            refine jx_vr (pc' := 68) (as := [.int (i32 (6)), .int (i32 (G735 12))]) (st := []) rfl rfl rfl rfl ⟨rfl, rfl, Nat.le_of_ble_eq_true rfl⟩ rfl rfl (c_fail (dd := d) (hd := by omega) (hW := hW739) (kind := 6) (place := G735 12) (fk := fk) (e_fk := show G735 16 = fk from ((hF740.1 16 rfl).trans (e_fk)))  (h_kind := ⟨(by decide), (by decide)⟩) (h_place := ⟨(Int.le_trans (by decide : (-2147483648 : Int) ≤ -3000) b1081.1), (Int.le_trans b1081.2 (by decide : (3002 : Int) ≤ 2147483647))⟩)  (p_0 := by omega) (p_1 := by omega)) (fun o V' hq => ?_)
            obtain ⟨G1082, A1083, fk2_1084, rfl, rfl, hW1085, hF1086, e1087, p1088, -⟩ := hq
            have hF1090 := Fr_tr hF747 hF1086 (Fr_sub (by decide)) (Fr_sub (by decide))
            have hP1091 := Pf_f hP748 hF1086 (by decide)
            have hS1092 := Fx_f hS749 hF1086 (by decide)
            have hV1093 := Fx_f hV750 hF1086 (by decide)
            have hK1094 := Fx_f hK751 hF1086 (by decide)
            have sf1095 : wQ A1083 (pc0).toNat (nd) (sy) := (show A1083 = A736 from funext (fun k => hF1086.2 k rfl)) ▸ sf752
            have sf1096 : VT (Vs) A1083 (sy) := (show A1083 = A736 from funext (fun k => hF1086.2 k rfl)) ▸ sf753
            have bfk2_1084 : (0 : Int) ≤ fk2_1084 ∧ fk2_1084 ≤ 6 := e1087 ▸ hW1085.1 16
            refine .inl ⟨rfl, ?_⟩
            refine jx_ld (pc' := 69) (l' := [(0, .ref 66)]) (st' := [.ref 66]) rfl (jl_aloadn rfl) ?_
            refine jx_ar (pc' := 71) (st' := [.int (i32 (14)), .ref 66]) rfl rfl rfl rfl ?_
            refine jx_ar (pc' := 72) (st' := [.int (i32 (0)), .int (i32 (14)), .ref 66]) rfl rfl rfl rfl ?_
            refine jx_vr (pc' := 75) (as := [.int (i32 (14)), .int (i32 (0))]) (st := []) rfl rfl rfl rfl ⟨rfl, rfl, Nat.le_of_ble_eq_true rfl⟩ rfl rfl (c_newName (dd := d) (hd := by omega) (hW := hW1085) (kind := 14) (many := 0) (sy := sy) (e_sy := show G1082 19 = sy from ((hF1086.1 19 rfl).trans ((hF740.1 19 rfl).trans (e_sy)))) (na := na) (e_na := show G1082 28 = na from ((hF1086.1 28 rfl).trans ((hF740.1 28 rfl).trans (e_na)))) (fk := fk2_1084) (e_fk := show G1082 16 = fk2_1084 from (e1087))  (h_kind := ⟨(by decide), (by decide)⟩) (h_many := ⟨(by decide), (by decide)⟩)  (p_0 := by omega) (p_1 := by omega)) (fun o V' hq => ?_)
            obtain ⟨G1097, A1098, r1099, sy2_1100, na2_1101, fk2_1102, yk2_1103, rfl, rfl, hW1104, hF1105, hQ1106, b1107, e1108, e1109, e1110, e1111, q1112⟩ := hq
            have hF1113 := Fr_tr hF1090 hF1105 (Fr_sub (by decide)) (Fr_sub (by decide))
            have hP1114 := Pf_f hP1091 hF1105 (by decide)
            have hS1115 := Fx_tr hS1092 hQ1106 (by omega)
            have hV1116 := Fx_f hV1093 hF1105 (by decide)
            have hK1117 := Fx_f hK1094 hF1105 (by decide)
            have sf1118 : wQ A1098 (pc0).toNat (nd) (sy) := wQ_fx (Pf_f Pf_rf hF1105 (by decide)) (Fx_su hQ1106 (by omega)) (Fx_su (Fx_f (w := pc0) Fx_rf hF1105 (by decide)) (by omega)) sf1095
            have sf1119 : VT (Vs) A1098 (sy) := VT_fx hQ1106 (by omega) sf1096
            have bsy2_1100 : (0 : Int) ≤ sy2_1100 ∧ sy2_1100 ≤ 202 := e1108 ▸ hW1104.1 19
            have bna2_1101 : (0 : Int) ≤ na2_1101 ∧ na2_1101 ≤ 200 := e1109 ▸ hW1104.1 28
            have bfk2_1102 : (0 : Int) ≤ fk2_1102 ∧ fk2_1102 ≤ 6 := e1110 ▸ hW1104.1 16
            have byk2_1103 : (0 : Int) ≤ yk2_1103 ∧ yk2_1103 ≤ 14 := e1111 ▸ hW1104.2 7 _
            refine .inr ⟨_, rfl, ?_⟩
            rcases q1112 with ⟨a1126, a1120, a1121, a1122, a1123, a1124, a1125⟩ | ⟨rfl, a1127, a1128, a1129⟩
            · have _q : True := trivial
              rw [a1126]
              exfalso
              omega
            · have _q : True := trivial
              refine jx_ld (pc' := 76) (l' := jSto1 [(0, .ref 66)] 1 (.int (i32 (0)))) (st' := []) rfl rfl ?_
              obtain ⟨L1130, eL1130⟩ : ∃ q, q = jSto1 [(0, .ref 66)] 1 (.int (i32 (0))) := ⟨_, rfl⟩
              rw [← eL1130]
              have gL1130_0 : jGet L1130 0 = some (.ref 66) := eL1130 ▸ jg_ne (by decide) (rfl : jGet [(0, .ref 66)] 0 = some (.ref 66)) rfl
              have gL1130_1 : jGet L1130 1 = some (.int (i32 (0))) := eL1130 ▸ jg_eq
              refine jx_ld (pc' := 77) (l' := L1130) (st' := [.ref 66]) rfl (jl_aloadn gL1130_0) ?_
              refine jx_vr (pc' := 80) (as := []) (st := []) rfl rfl rfl rfl ⟨rfl, rfl, Nat.le_of_ble_eq_true rfl⟩ rfl rfl (c_bad (dd := d) (hd := by omega) (hW := hW1104)  (fk := fk2_1102) (e_fk := show G1097 16 = fk2_1102 from (e1110))    ) (fun o V' hq => ?_)
              obtain ⟨r1131, rfl, rfl, b1132, q1133⟩ := hq
              refine .inr ⟨_, rfl, ?_⟩
              rcases q1133 with ⟨rfl, a1134⟩ | ⟨rfl, a1135⟩
              · have _q : True := trivial
                refine jx_if_eq (pc' := 83) (tg := 84) rfl rfl rfl (by decide) (by decide) (fun h1136 => ?_) (fun h1136 => ?_)
                · have _q := h1136
                  exact absurd h1136 (by omega)
                · have _q := h1136
                  refine jx_rt (v := none) rfl rfl rfl rfl rfl rfl ?_
                  exact ⟨_, _, ln, at2_737, fk2_1102, nd, sy2_1100, na2_1101, vi, A 3 (ln).toNat, pc0, rfl, rfl, hW1104, hF1113, hP1114, hS1115, hV1116, hK1117, ((hF1105.1 9 rfl).trans ((hF1086.1 9 rfl).trans ((hF740.1 9 rfl).trans (e_ln)))), ((hF1105.1 10 rfl).trans ((hF1086.1 10 rfl).trans (e741))), (e1110), ((hF1105.1 31 rfl).trans ((hF1086.1 31 rfl).trans ((hF740.1 31 rfl).trans (e_nd)))), (e1108), (e1109), ((hF1105.1 29 rfl).trans ((hF1086.1 29 rfl).trans ((hF740.1 29 rfl).trans (e_vi)))), (congrFun ((hF1105.2 3 rfl).trans ((hF1086.2 3 rfl).trans (hF740.2 3 rfl))) _), ((hF1105.1 46 rfl).trans ((hF1086.1 46 rfl).trans ((hF740.1 46 rfl).trans (e_pc0)))), by omega, by omega, by omega, by omega, by first | exact Or.inl (by omega)⟩
              · have _q : True := trivial
                exfalso
                omega
    · have _q := h760
      refine jx_ld (pc' := 34) (l' := [(0, .ref 66)]) (st' := [.ref 66]) rfl (jl_aloadn rfl) ?_
      refine jx_ar (pc' := 35) (st' := [.int (i32 (2)), .ref 66]) rfl rfl rfl rfl ?_
      refine jx_ld (pc' := 36) (l' := [(0, .ref 66)]) (st' := [.ref 66, .int (i32 (2)), .ref 66]) rfl (jl_aloadn rfl) ?_
      have b1137 : (-3000 : Int) ≤ G735 12 ∧ G735 12 ≤ 3002 := hW739.1 12
      refine jr_get (pc' := 39) (i := 12) (v := .int (i32 (G735 12))) rfl rfl (by decide) rfl rfl ?_
      refine jx_vr (pc' := 42) (as := [.int (i32 (2)), .int (i32 (G735 12))]) (st := []) rfl rfl rfl rfl ⟨rfl, rfl, Nat.le_of_ble_eq_true rfl⟩ rfl rfl (c_fail (dd := d) (hd := by omega) (hW := hW739) (kind := 2) (place := G735 12) (fk := fk) (e_fk := show G735 16 = fk from ((hF740.1 16 rfl).trans (e_fk)))  (h_kind := ⟨(by decide), (by decide)⟩) (h_place := ⟨(Int.le_trans (by decide : (-2147483648 : Int) ≤ -3000) b1137.1), (Int.le_trans b1137.2 (by decide : (3002 : Int) ≤ 2147483647))⟩)  (p_0 := by omega) (p_1 := by omega)) (fun o V' hq => ?_)
      obtain ⟨G1138, A1139, fk2_1140, rfl, rfl, hW1141, hF1142, e1143, p1144, -⟩ := hq
      have hF1146 := Fr_tr hF747 hF1142 (Fr_sub (by decide)) (Fr_sub (by decide))
      have hP1147 := Pf_f hP748 hF1142 (by decide)
      have hS1148 := Fx_f hS749 hF1142 (by decide)
      have hV1149 := Fx_f hV750 hF1142 (by decide)
      have hK1150 := Fx_f hK751 hF1142 (by decide)
      have sf1151 : wQ A1139 (pc0).toNat (nd) (sy) := (show A1139 = A736 from funext (fun k => hF1142.2 k rfl)) ▸ sf752
      have sf1152 : VT (Vs) A1139 (sy) := (show A1139 = A736 from funext (fun k => hF1142.2 k rfl)) ▸ sf753
      have bfk2_1140 : (0 : Int) ≤ fk2_1140 ∧ fk2_1140 ≤ 6 := e1143 ▸ hW1141.1 16
      refine .inl ⟨rfl, ?_⟩
      refine jx_ld (pc' := 43) (l' := [(0, .ref 66)]) (st' := [.ref 66]) rfl (jl_aloadn rfl) ?_
      refine jx_vr (pc' := 46) (as := []) (st := []) rfl rfl rfl rfl ⟨rfl, rfl, Nat.le_of_ble_eq_true rfl⟩ rfl rfl (c_bad (dd := d) (hd := by omega) (hW := hW1141)  (fk := fk2_1140) (e_fk := show G1138 16 = fk2_1140 from (e1143))    ) (fun o V' hq => ?_)
      obtain ⟨r1153, rfl, rfl, b1154, q1155⟩ := hq
      refine .inr ⟨_, rfl, ?_⟩
      rcases q1155 with ⟨rfl, a1156⟩ | ⟨rfl, a1157⟩
      · have _q : True := trivial
        refine jx_if_ne (pc' := 49) (tg := 68) rfl rfl rfl (by decide) (by decide) (fun h1158 => ?_) (fun h1158 => ?_)
        · have _q := h1158
          refine jx_ld (pc' := 69) (l' := [(0, .ref 66)]) (st' := [.ref 66]) rfl (jl_aloadn rfl) ?_
          refine jx_ar (pc' := 71) (st' := [.int (i32 (14)), .ref 66]) rfl rfl rfl rfl ?_
          refine jx_ar (pc' := 72) (st' := [.int (i32 (0)), .int (i32 (14)), .ref 66]) rfl rfl rfl rfl ?_
          refine jx_vr (pc' := 75) (as := [.int (i32 (14)), .int (i32 (0))]) (st := []) rfl rfl rfl rfl ⟨rfl, rfl, Nat.le_of_ble_eq_true rfl⟩ rfl rfl (c_newName (dd := d) (hd := by omega) (hW := hW1141) (kind := 14) (many := 0) (sy := sy) (e_sy := show G1138 19 = sy from ((hF1142.1 19 rfl).trans ((hF740.1 19 rfl).trans (e_sy)))) (na := na) (e_na := show G1138 28 = na from ((hF1142.1 28 rfl).trans ((hF740.1 28 rfl).trans (e_na)))) (fk := fk2_1140) (e_fk := show G1138 16 = fk2_1140 from (e1143))  (h_kind := ⟨(by decide), (by decide)⟩) (h_many := ⟨(by decide), (by decide)⟩)  (p_0 := by omega) (p_1 := by omega)) (fun o V' hq => ?_)
          obtain ⟨G1159, A1160, r1161, sy2_1162, na2_1163, fk2_1164, yk2_1165, rfl, rfl, hW1166, hF1167, hQ1168, b1169, e1170, e1171, e1172, e1173, q1174⟩ := hq
          have hF1175 := Fr_tr hF1146 hF1167 (Fr_sub (by decide)) (Fr_sub (by decide))
          have hP1176 := Pf_f hP1147 hF1167 (by decide)
          have hS1177 := Fx_tr hS1148 hQ1168 (by omega)
          have hV1178 := Fx_f hV1149 hF1167 (by decide)
          have hK1179 := Fx_f hK1150 hF1167 (by decide)
          have sf1180 : wQ A1160 (pc0).toNat (nd) (sy) := wQ_fx (Pf_f Pf_rf hF1167 (by decide)) (Fx_su hQ1168 (by omega)) (Fx_su (Fx_f (w := pc0) Fx_rf hF1167 (by decide)) (by omega)) sf1151
          have sf1181 : VT (Vs) A1160 (sy) := VT_fx hQ1168 (by omega) sf1152
          have bsy2_1162 : (0 : Int) ≤ sy2_1162 ∧ sy2_1162 ≤ 202 := e1170 ▸ hW1166.1 19
          have bna2_1163 : (0 : Int) ≤ na2_1163 ∧ na2_1163 ≤ 200 := e1171 ▸ hW1166.1 28
          have bfk2_1164 : (0 : Int) ≤ fk2_1164 ∧ fk2_1164 ≤ 6 := e1172 ▸ hW1166.1 16
          have byk2_1165 : (0 : Int) ≤ yk2_1165 ∧ yk2_1165 ≤ 14 := e1173 ▸ hW1166.2 7 _
          refine .inr ⟨_, rfl, ?_⟩
          rcases q1174 with ⟨a1188, a1182, a1183, a1184, a1185, a1186, a1187⟩ | ⟨rfl, a1189, a1190, a1191⟩
          · have _q : True := trivial
            rw [a1188]
            exfalso
            omega
          · have _q : True := trivial
            refine jx_ld (pc' := 76) (l' := jSto1 [(0, .ref 66)] 1 (.int (i32 (0)))) (st' := []) rfl rfl ?_
            obtain ⟨L1192, eL1192⟩ : ∃ q, q = jSto1 [(0, .ref 66)] 1 (.int (i32 (0))) := ⟨_, rfl⟩
            rw [← eL1192]
            have gL1192_0 : jGet L1192 0 = some (.ref 66) := eL1192 ▸ jg_ne (by decide) (rfl : jGet [(0, .ref 66)] 0 = some (.ref 66)) rfl
            have gL1192_1 : jGet L1192 1 = some (.int (i32 (0))) := eL1192 ▸ jg_eq
            refine jx_ld (pc' := 77) (l' := L1192) (st' := [.ref 66]) rfl (jl_aloadn gL1192_0) ?_
            refine jx_vr (pc' := 80) (as := []) (st := []) rfl rfl rfl rfl ⟨rfl, rfl, Nat.le_of_ble_eq_true rfl⟩ rfl rfl (c_bad (dd := d) (hd := by omega) (hW := hW1166)  (fk := fk2_1164) (e_fk := show G1159 16 = fk2_1164 from (e1172))    ) (fun o V' hq => ?_)
            obtain ⟨r1193, rfl, rfl, b1194, q1195⟩ := hq
            refine .inr ⟨_, rfl, ?_⟩
            rcases q1195 with ⟨rfl, a1196⟩ | ⟨rfl, a1197⟩
            · have _q : True := trivial
              refine jx_if_eq (pc' := 83) (tg := 84) rfl rfl rfl (by decide) (by decide) (fun h1198 => ?_) (fun h1198 => ?_)
              · have _q := h1198
                exact absurd h1198 (by omega)
              · have _q := h1198
                refine jx_rt (v := none) rfl rfl rfl rfl rfl rfl ?_
                exact ⟨_, _, ln, at2_737, fk2_1164, nd, sy2_1162, na2_1163, vi, A 3 (ln).toNat, pc0, rfl, rfl, hW1166, hF1175, hP1176, hS1177, hV1178, hK1179, ((hF1167.1 9 rfl).trans ((hF1142.1 9 rfl).trans ((hF740.1 9 rfl).trans (e_ln)))), ((hF1167.1 10 rfl).trans ((hF1142.1 10 rfl).trans (e741))), (e1172), ((hF1167.1 31 rfl).trans ((hF1142.1 31 rfl).trans ((hF740.1 31 rfl).trans (e_nd)))), (e1170), (e1171), ((hF1167.1 29 rfl).trans ((hF1142.1 29 rfl).trans ((hF740.1 29 rfl).trans (e_vi)))), (congrFun ((hF1167.2 3 rfl).trans ((hF1142.2 3 rfl).trans (hF740.2 3 rfl))) _), ((hF1167.1 46 rfl).trans ((hF1142.1 46 rfl).trans ((hF740.1 46 rfl).trans (e_pc0)))), by omega, by omega, by omega, by omega, by first | exact Or.inl (by omega)⟩
            · have _q : True := trivial
              exfalso
              omega
        · have _q := h1158
          exact absurd h1158 (by omega)
      · have _q : True := trivial
        exfalso
        omega
  · have _q := h755
    refine jx_ld (pc' := 13) (l' := [(0, .ref 66)]) (st' := [.ref 66]) rfl (jl_aloadn rfl) ?_
    refine jx_ar (pc' := 14) (st' := [.int (i32 (1)), .ref 66]) rfl rfl rfl rfl ?_
    refine jx_ld (pc' := 15) (l' := [(0, .ref 66)]) (st' := [.ref 66, .int (i32 (1)), .ref 66]) rfl (jl_aloadn rfl) ?_
    have b1199 : (-3000 : Int) ≤ G735 12 ∧ G735 12 ≤ 3002 := hW739.1 12
    refine jr_get (pc' := 18) (i := 12) (v := .int (i32 (G735 12))) rfl rfl (by decide) rfl rfl ?_
    refine jx_vr (pc' := 21) (as := [.int (i32 (1)), .int (i32 (G735 12))]) (st := []) rfl rfl rfl rfl ⟨rfl, rfl, Nat.le_of_ble_eq_true rfl⟩ rfl rfl (c_fail (dd := d) (hd := by omega) (hW := hW739) (kind := 1) (place := G735 12) (fk := fk) (e_fk := show G735 16 = fk from ((hF740.1 16 rfl).trans (e_fk)))  (h_kind := ⟨(by decide), (by decide)⟩) (h_place := ⟨(Int.le_trans (by decide : (-2147483648 : Int) ≤ -3000) b1199.1), (Int.le_trans b1199.2 (by decide : (3002 : Int) ≤ 2147483647))⟩)  (p_0 := by omega) (p_1 := by omega)) (fun o V' hq => ?_)
    obtain ⟨G1200, A1201, fk2_1202, rfl, rfl, hW1203, hF1204, e1205, p1206, -⟩ := hq
    have hF1208 := Fr_tr hF747 hF1204 (Fr_sub (by decide)) (Fr_sub (by decide))
    have hP1209 := Pf_f hP748 hF1204 (by decide)
    have hS1210 := Fx_f hS749 hF1204 (by decide)
    have hV1211 := Fx_f hV750 hF1204 (by decide)
    have hK1212 := Fx_f hK751 hF1204 (by decide)
    have sf1213 : wQ A1201 (pc0).toNat (nd) (sy) := (show A1201 = A736 from funext (fun k => hF1204.2 k rfl)) ▸ sf752
    have sf1214 : VT (Vs) A1201 (sy) := (show A1201 = A736 from funext (fun k => hF1204.2 k rfl)) ▸ sf753
    have bfk2_1202 : (0 : Int) ≤ fk2_1202 ∧ fk2_1202 ≤ 6 := e1205 ▸ hW1203.1 16
    refine .inl ⟨rfl, ?_⟩
    refine jx_rt (v := none) rfl rfl rfl rfl rfl rfl ?_
    exact ⟨_, _, ln, at2_737, fk2_1202, nd, sy, na, vi, A 3 (ln).toNat, pc0, rfl, rfl, hW1203, hF1208, hP1209, hS1210, hV1211, hK1212, ((hF1204.1 9 rfl).trans ((hF740.1 9 rfl).trans (e_ln))), ((hF1204.1 10 rfl).trans (e741)), (e1205), ((hF1204.1 31 rfl).trans ((hF740.1 31 rfl).trans (e_nd))), ((hF1204.1 19 rfl).trans ((hF740.1 19 rfl).trans (e_sy))), ((hF1204.1 28 rfl).trans ((hF740.1 28 rfl).trans (e_na))), ((hF1204.1 29 rfl).trans ((hF740.1 29 rfl).trans (e_vi))), (congrFun ((hF1204.2 3 rfl).trans (hF740.2 3 rfl)) _), ((hF1204.1 46 rfl).trans ((hF740.1 46 rfl).trans (e_pc0))), by omega, by omega, by omega, by omega, by first | exact Or.inl (by omega)⟩
