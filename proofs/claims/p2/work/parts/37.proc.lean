set_option maxRecDepth 20000 in
set_option maxHeartbeats 4000000 in
theorem c_isTaken {X : jX} {dd : Nat} {c0 c1 : jC} {G : Nat → Int} {A : Nat → Nat → Int} {T : jH} {nm : Int64} {sy : Int} (hd : 1 ≤ dd) (hW : Wk G A) (e_sy : G 19 = sy) : wk X dd 307 [.ref 66, .long nm] (rV c0 c1 G A T) (fun o V' => ∃ (r : Int), V' = rV c0 c1 G A T ∧ o = .inl (some (.int (i32 r))) ∧ ((0 : Int) ≤ r ∧ r ≤ 1) ∧ True) := by
  obtain ⟨d, rfl⟩ : ∃ d, dd = d + 1 := ⟨dd - 1, by omega⟩
  refine wk_of (e := jm307) rfl (Nat.le_of_ble_eq_true rfl) ?_
  show wj X d jm307 (0, [(0, .ref 66), (1, .long (nm))], [], rV c0 c1 G A T) _
  have b_sy : (0 : Int) ≤ sy ∧ sy ≤ 202 := e_sy ▸ hW.1 19
  have at_5 : ∀ (m : Nat) (L : jL) (tkn s : Int), (sy - s).toNat = m → jGet L 0 = some (.ref 66) → jGet L 1 = some (.long (nm)) → jGet L 3 = some (.int (i32 tkn)) → jGet L 4 = some (.int (i32 s)) → ((-2147483648 : Int) ≤ tkn ∧ tkn ≤ 2147483647) → ((-2147483648 : Int) ≤ s ∧ s ≤ 2147483647) → (0 ≤ tkn ∧ tkn ≤ 1) → (0 ≤ s ∧ s ≤ sy) → wj X d jm307 (5, L, [], rV c0 c1 G A T) (fun o V' => ∃ (r : Int), V' = rV c0 c1 G A T ∧ o = .inl (some (.int (i32 r))) ∧ ((0 : Int) ≤ r ∧ r ≤ 1) ∧ True) := by
    intro m
    induction m using Nat.strongRecOn with
    | ind m ih5 =>
      intro L tkn s hm gL_0 gL_1 gL_3 gL_4 rx_tkn rx_s iv_0 iv_1
      refine jx_ld (pc' := 7) (l' := L) (st' := [.int (i32 (s))]) rfl (jl_iload gL_4) ?_
      refine jx_ld (pc' := 8) (l' := L) (st' := [.ref 66, .int (i32 (s))]) rfl (jl_aloadn gL_0) ?_
      refine jr_get (pc' := 11) (i := 19) (v := .int (i32 (sy))) rfl rfl (by decide) (rFv_eq (by decide) (show G 19 = sy from (e_sy))) rfl ?_
      refine jx_icmp_ge (pc' := 14) (tg := 79) rfl rfl rfl (Int.le_trans (by decide : (-2147483648 : Int) ≤ -2147483648) rx_s.1) (Int.le_trans rx_s.2 (by decide : (2147483647 : Int) ≤ 2147483647)) (Int.le_trans (by decide : (-2147483648 : Int) ≤ 0) b_sy.1) (Int.le_trans b_sy.2 (by decide : (202 : Int) ≤ 2147483647)) (fun h1 => ?_) (fun h1 => ?_)
      · have _q := h1
        refine jx_ld (pc' := 80) (l' := L) (st' := [.int (i32 (tkn))]) rfl (jl_iloadn gL_3) ?_
        refine jx_rt (v := some (.int (i32 (tkn)))) rfl rfl rfl rfl rfl (by first | rfl | exact jRet_b (by omega)) ?_
        exact ⟨_, rfl, rfl, by omega, trivial⟩
      · have _q := h1
        refine jx_ld (pc' := 15) (l' := L) (st' := [.ref 66]) rfl (jl_aloadn gL_0) ?_
        refine jr_get (pc' := 18) (i := 21) (v := .ref 74) rfl rfl (by decide) rfl rfl ?_
        refine jx_ld (pc' := 20) (l' := L) (st' := [.int (i32 (s)), .ref 74]) rfl (jl_iload gL_4) ?_
        have b2 : (0 : Int) ≤ A 7 (s).toNat ∧ A 7 (s).toNat ≤ 14 := hW.2 7 _
        refine jr_ldv (pc' := 21) (i := 7) (m := 260) (z := s) (y := A 7 (s).toNat) rfl (by decide) rfl (by decide) (by omega) (by omega) rfl (show A 7 (s).toNat = A 7 (s).toNat from rfl) ?_
        refine jx_ld (pc' := 23) (l' := jSto1 L 5 (.int (i32 (A 7 (s).toNat)))) (st' := []) rfl rfl ?_
        obtain ⟨L3, eL3⟩ : ∃ q, q = jSto1 L 5 (.int (i32 (A 7 (s).toNat))) := ⟨_, rfl⟩
        rw [← eL3]
        have gL3_0 : jGet L3 0 = some (.ref 66) := eL3 ▸ jg_ne (by decide) gL_0 rfl
        have gL3_1 : jGet L3 1 = some (.long (nm)) := eL3 ▸ jg_nel (by decide) gL_1 (by decide)
        have gL3_3 : jGet L3 3 = some (.int (i32 (tkn))) := eL3 ▸ jg_ne (by decide) gL_3 rfl
        have gL3_4 : jGet L3 4 = some (.int (i32 (s))) := eL3 ▸ jg_ne (by decide) gL_4 rfl
        have gL3_5 : jGet L3 5 = some (.int (i32 (A 7 (s).toNat))) := eL3 ▸ jg_eq
        refine jx_ld (pc' := 24) (l' := L3) (st' := [.int (i32 (tkn))]) rfl (jl_iloadn gL3_3) ?_
        refine jx_if_ne (pc' := 27) (tg := 67) rfl rfl rfl (Int.le_trans (by decide : (-2147483648 : Int) ≤ -2147483648) rx_tkn.1) (Int.le_trans rx_tkn.2 (by decide : (2147483647 : Int) ≤ 2147483647)) (fun h4 => ?_) (fun h4 => ?_)
        · have _q := h4
          refine jx_ar (pc' := 68) (st' := [.int (i32 (1))]) rfl rfl rfl rfl ?_
          refine jx_go (tg := 72) rfl rfl ?_
          refine jx_ld (pc' := 73) (l' := jSto1 L3 3 (.int (i32 (1)))) (st' := []) rfl rfl ?_
          obtain ⟨L5, eL5⟩ : ∃ q, q = jSto1 L3 3 (.int (i32 (1))) := ⟨_, rfl⟩
          rw [← eL5]
          have gL5_0 : jGet L5 0 = some (.ref 66) := eL5 ▸ jg_ne (by decide) gL3_0 rfl
          have gL5_1 : jGet L5 1 = some (.long (nm)) := eL5 ▸ jg_nel (by decide) gL3_1 (by decide)
          have gL5_4 : jGet L5 4 = some (.int (i32 (s))) := eL5 ▸ jg_ne (by decide) gL3_4 rfl
          have gL5_5 : jGet L5 5 = some (.int (i32 (A 7 (s).toNat))) := eL5 ▸ jg_ne (by decide) gL3_5 rfl
          have gL5_3 : jGet L5 3 = some (.int (i32 (1))) := eL5 ▸ jg_eq
          refine jx_inc (pc' := 76) (l' := jSto1 L5 4 (.int (i32 ((s + (1)))))) (x := s) rfl gL5_4 (by decide) rfl rfl ?_
          obtain ⟨L6, eL6⟩ : ∃ q, q = jSto1 L5 4 (.int (i32 ((s + (1))))) := ⟨_, rfl⟩
          rw [← eL6]
          have gL6_0 : jGet L6 0 = some (.ref 66) := eL6 ▸ jg_ne (by decide) gL5_0 rfl
          have gL6_1 : jGet L6 1 = some (.long (nm)) := eL6 ▸ jg_nel (by decide) gL5_1 (by decide)
          have gL6_5 : jGet L6 5 = some (.int (i32 (A 7 (s).toNat))) := eL6 ▸ jg_ne (by decide) gL5_5 rfl
          have gL6_3 : jGet L6 3 = some (.int (i32 (1))) := eL6 ▸ jg_ne (by decide) gL5_3 rfl
          have gL6_4 : jGet L6 4 = some (.int (i32 ((s + (1))))) := eL6 ▸ jg_eq
          refine jx_go (tg := 5) rfl rfl ?_
          exact ih5 _ (by omega) L6 (1) ((s + (1))) rfl gL6_0 gL6_1 gL6_3 gL6_4 (by omega) (by omega) (by omega) (by omega)
        · have _q := h4
          refine jx_ld (pc' := 28) (l' := L3) (st' := [.ref 66]) rfl (jl_aloadn gL3_0) ?_
          refine jr_get (pc' := 31) (i := 20) (v := .ref 73) rfl rfl (by decide) rfl rfl ?_
          refine jx_ld (pc' := 33) (l' := L3) (st' := [.int (i32 (s)), .ref 73]) rfl (jl_iload gL3_4) ?_
          refine jr_llv (pc' := 34) (i := 6) (m := 260) (z := s) rfl (by decide) rfl (by decide) (by omega) (by omega) rfl (fun y7 => ?_)
          refine jx_ld (pc' := 35) (l' := L3) (st' := [.long (nm), .long (y7)]) rfl (jl_lloadn gL3_1) ?_
          refine jx_lcmp (pc' := 36) rfl rfl (fun r8 hr8 => ?_)
          refine jx_if_ne (pc' := 39) (tg := 71) rfl rfl rfl (by omega) (by omega) (fun h9 => ?_) (fun h9 => ?_)
          · have _q := h9
            refine jx_ar (pc' := 72) (st' := [.int (i32 (0))]) rfl rfl rfl rfl ?_
            refine jx_ld (pc' := 73) (l' := jSto1 L3 3 (.int (i32 (0)))) (st' := []) rfl rfl ?_
            obtain ⟨L10, eL10⟩ : ∃ q, q = jSto1 L3 3 (.int (i32 (0))) := ⟨_, rfl⟩
            rw [← eL10]
            have gL10_0 : jGet L10 0 = some (.ref 66) := eL10 ▸ jg_ne (by decide) gL3_0 rfl
            have gL10_1 : jGet L10 1 = some (.long (nm)) := eL10 ▸ jg_nel (by decide) gL3_1 (by decide)
            have gL10_4 : jGet L10 4 = some (.int (i32 (s))) := eL10 ▸ jg_ne (by decide) gL3_4 rfl
            have gL10_5 : jGet L10 5 = some (.int (i32 (A 7 (s).toNat))) := eL10 ▸ jg_ne (by decide) gL3_5 rfl
            have gL10_3 : jGet L10 3 = some (.int (i32 (0))) := eL10 ▸ jg_eq
            refine jx_inc (pc' := 76) (l' := jSto1 L10 4 (.int (i32 ((s + (1)))))) (x := s) rfl gL10_4 (by decide) rfl rfl ?_
            obtain ⟨L11, eL11⟩ : ∃ q, q = jSto1 L10 4 (.int (i32 ((s + (1))))) := ⟨_, rfl⟩
            rw [← eL11]
            have gL11_0 : jGet L11 0 = some (.ref 66) := eL11 ▸ jg_ne (by decide) gL10_0 rfl
            have gL11_1 : jGet L11 1 = some (.long (nm)) := eL11 ▸ jg_nel (by decide) gL10_1 (by decide)
            have gL11_5 : jGet L11 5 = some (.int (i32 (A 7 (s).toNat))) := eL11 ▸ jg_ne (by decide) gL10_5 rfl
            have gL11_3 : jGet L11 3 = some (.int (i32 (0))) := eL11 ▸ jg_ne (by decide) gL10_3 rfl
            have gL11_4 : jGet L11 4 = some (.int (i32 ((s + (1))))) := eL11 ▸ jg_eq
            refine jx_go (tg := 5) rfl rfl ?_
            exact ih5 _ (by omega) L11 (0) ((s + (1))) rfl gL11_0 gL11_1 gL11_3 gL11_4 (by omega) (by omega) (by omega) (by omega)
          · have _q := h9
            refine jx_ld (pc' := 41) (l' := L3) (st' := [.int (i32 (A 7 (s).toNat))]) rfl (jl_iload gL3_5) ?_
            refine jx_ar (pc' := 43) (st' := [.int (i32 (14)), .int (i32 (A 7 (s).toNat))]) rfl rfl rfl rfl ?_
            refine jx_icmp_eq (pc' := 46) (tg := 67) rfl rfl rfl (Int.le_trans (by decide : (-2147483648 : Int) ≤ 0) b2.1) (Int.le_trans b2.2 (by decide : (14 : Int) ≤ 2147483647)) (by decide) (by decide) (fun h12 => ?_) (fun h12 => ?_)
            · have _q := h12
              refine jx_ar (pc' := 68) (st' := [.int (i32 (1))]) rfl rfl rfl rfl ?_
              refine jx_go (tg := 72) rfl rfl ?_
              refine jx_ld (pc' := 73) (l' := jSto1 L3 3 (.int (i32 (1)))) (st' := []) rfl rfl ?_
              obtain ⟨L13, eL13⟩ : ∃ q, q = jSto1 L3 3 (.int (i32 (1))) := ⟨_, rfl⟩
              rw [← eL13]
              have gL13_0 : jGet L13 0 = some (.ref 66) := eL13 ▸ jg_ne (by decide) gL3_0 rfl
              have gL13_1 : jGet L13 1 = some (.long (nm)) := eL13 ▸ jg_nel (by decide) gL3_1 (by decide)
              have gL13_4 : jGet L13 4 = some (.int (i32 (s))) := eL13 ▸ jg_ne (by decide) gL3_4 rfl
              have gL13_5 : jGet L13 5 = some (.int (i32 (A 7 (s).toNat))) := eL13 ▸ jg_ne (by decide) gL3_5 rfl
              have gL13_3 : jGet L13 3 = some (.int (i32 (1))) := eL13 ▸ jg_eq
              refine jx_inc (pc' := 76) (l' := jSto1 L13 4 (.int (i32 ((s + (1)))))) (x := s) rfl gL13_4 (by decide) rfl rfl ?_
              obtain ⟨L14, eL14⟩ : ∃ q, q = jSto1 L13 4 (.int (i32 ((s + (1))))) := ⟨_, rfl⟩
              rw [← eL14]
              have gL14_0 : jGet L14 0 = some (.ref 66) := eL14 ▸ jg_ne (by decide) gL13_0 rfl
              have gL14_1 : jGet L14 1 = some (.long (nm)) := eL14 ▸ jg_nel (by decide) gL13_1 (by decide)
              have gL14_5 : jGet L14 5 = some (.int (i32 (A 7 (s).toNat))) := eL14 ▸ jg_ne (by decide) gL13_5 rfl
              have gL14_3 : jGet L14 3 = some (.int (i32 (1))) := eL14 ▸ jg_ne (by decide) gL13_3 rfl
              have gL14_4 : jGet L14 4 = some (.int (i32 ((s + (1))))) := eL14 ▸ jg_eq
              refine jx_go (tg := 5) rfl rfl ?_
              exact ih5 _ (by omega) L14 (1) ((s + (1))) rfl gL14_0 gL14_1 gL14_3 gL14_4 (by omega) (by omega) (by omega) (by omega)
            · have _q := h12
              refine jx_ld (pc' := 48) (l' := L3) (st' := [.int (i32 (A 7 (s).toNat))]) rfl (jl_iload gL3_5) ?_
              refine jx_ar (pc' := 50) (st' := [.int (i32 (11)), .int (i32 (A 7 (s).toNat))]) rfl rfl rfl rfl ?_
              refine jx_icmp_eq (pc' := 53) (tg := 67) rfl rfl rfl (Int.le_trans (by decide : (-2147483648 : Int) ≤ 0) b2.1) (Int.le_trans b2.2 (by decide : (14 : Int) ≤ 2147483647)) (by decide) (by decide) (fun h15 => ?_) (fun h15 => ?_)
              · have _q := h15
                refine jx_ar (pc' := 68) (st' := [.int (i32 (1))]) rfl rfl rfl rfl ?_
                refine jx_go (tg := 72) rfl rfl ?_
                refine jx_ld (pc' := 73) (l' := jSto1 L3 3 (.int (i32 (1)))) (st' := []) rfl rfl ?_
                obtain ⟨L16, eL16⟩ : ∃ q, q = jSto1 L3 3 (.int (i32 (1))) := ⟨_, rfl⟩
                rw [← eL16]
                have gL16_0 : jGet L16 0 = some (.ref 66) := eL16 ▸ jg_ne (by decide) gL3_0 rfl
                have gL16_1 : jGet L16 1 = some (.long (nm)) := eL16 ▸ jg_nel (by decide) gL3_1 (by decide)
                have gL16_4 : jGet L16 4 = some (.int (i32 (s))) := eL16 ▸ jg_ne (by decide) gL3_4 rfl
                have gL16_5 : jGet L16 5 = some (.int (i32 (A 7 (s).toNat))) := eL16 ▸ jg_ne (by decide) gL3_5 rfl
                have gL16_3 : jGet L16 3 = some (.int (i32 (1))) := eL16 ▸ jg_eq
                refine jx_inc (pc' := 76) (l' := jSto1 L16 4 (.int (i32 ((s + (1)))))) (x := s) rfl gL16_4 (by decide) rfl rfl ?_
                obtain ⟨L17, eL17⟩ : ∃ q, q = jSto1 L16 4 (.int (i32 ((s + (1))))) := ⟨_, rfl⟩
                rw [← eL17]
                have gL17_0 : jGet L17 0 = some (.ref 66) := eL17 ▸ jg_ne (by decide) gL16_0 rfl
                have gL17_1 : jGet L17 1 = some (.long (nm)) := eL17 ▸ jg_nel (by decide) gL16_1 (by decide)
                have gL17_5 : jGet L17 5 = some (.int (i32 (A 7 (s).toNat))) := eL17 ▸ jg_ne (by decide) gL16_5 rfl
                have gL17_3 : jGet L17 3 = some (.int (i32 (1))) := eL17 ▸ jg_ne (by decide) gL16_3 rfl
                have gL17_4 : jGet L17 4 = some (.int (i32 ((s + (1))))) := eL17 ▸ jg_eq
                refine jx_go (tg := 5) rfl rfl ?_
                exact ih5 _ (by omega) L17 (1) ((s + (1))) rfl gL17_0 gL17_1 gL17_3 gL17_4 (by omega) (by omega) (by omega) (by omega)
              · have _q := h15
                refine jx_ld (pc' := 55) (l' := L3) (st' := [.int (i32 (A 7 (s).toNat))]) rfl (jl_iload gL3_5) ?_
                refine jx_ar (pc' := 57) (st' := [.int (i32 (12)), .int (i32 (A 7 (s).toNat))]) rfl rfl rfl rfl ?_
                refine jx_icmp_eq (pc' := 60) (tg := 67) rfl rfl rfl (Int.le_trans (by decide : (-2147483648 : Int) ≤ 0) b2.1) (Int.le_trans b2.2 (by decide : (14 : Int) ≤ 2147483647)) (by decide) (by decide) (fun h18 => ?_) (fun h18 => ?_)
                · have _q := h18
                  refine jx_ar (pc' := 68) (st' := [.int (i32 (1))]) rfl rfl rfl rfl ?_
                  refine jx_go (tg := 72) rfl rfl ?_
                  refine jx_ld (pc' := 73) (l' := jSto1 L3 3 (.int (i32 (1)))) (st' := []) rfl rfl ?_
                  obtain ⟨L19, eL19⟩ : ∃ q, q = jSto1 L3 3 (.int (i32 (1))) := ⟨_, rfl⟩
                  rw [← eL19]
                  have gL19_0 : jGet L19 0 = some (.ref 66) := eL19 ▸ jg_ne (by decide) gL3_0 rfl
                  have gL19_1 : jGet L19 1 = some (.long (nm)) := eL19 ▸ jg_nel (by decide) gL3_1 (by decide)
                  have gL19_4 : jGet L19 4 = some (.int (i32 (s))) := eL19 ▸ jg_ne (by decide) gL3_4 rfl
                  have gL19_5 : jGet L19 5 = some (.int (i32 (A 7 (s).toNat))) := eL19 ▸ jg_ne (by decide) gL3_5 rfl
                  have gL19_3 : jGet L19 3 = some (.int (i32 (1))) := eL19 ▸ jg_eq
                  refine jx_inc (pc' := 76) (l' := jSto1 L19 4 (.int (i32 ((s + (1)))))) (x := s) rfl gL19_4 (by decide) rfl rfl ?_
                  obtain ⟨L20, eL20⟩ : ∃ q, q = jSto1 L19 4 (.int (i32 ((s + (1))))) := ⟨_, rfl⟩
                  rw [← eL20]
                  have gL20_0 : jGet L20 0 = some (.ref 66) := eL20 ▸ jg_ne (by decide) gL19_0 rfl
                  have gL20_1 : jGet L20 1 = some (.long (nm)) := eL20 ▸ jg_nel (by decide) gL19_1 (by decide)
                  have gL20_5 : jGet L20 5 = some (.int (i32 (A 7 (s).toNat))) := eL20 ▸ jg_ne (by decide) gL19_5 rfl
                  have gL20_3 : jGet L20 3 = some (.int (i32 (1))) := eL20 ▸ jg_ne (by decide) gL19_3 rfl
                  have gL20_4 : jGet L20 4 = some (.int (i32 ((s + (1))))) := eL20 ▸ jg_eq
                  refine jx_go (tg := 5) rfl rfl ?_
                  exact ih5 _ (by omega) L20 (1) ((s + (1))) rfl gL20_0 gL20_1 gL20_3 gL20_4 (by omega) (by omega) (by omega) (by omega)
                · have _q := h18
                  refine jx_ld (pc' := 62) (l' := L3) (st' := [.int (i32 (A 7 (s).toNat))]) rfl (jl_iload gL3_5) ?_
                  refine jx_ar (pc' := 64) (st' := [.int (i32 (13)), .int (i32 (A 7 (s).toNat))]) rfl rfl rfl rfl ?_
                  refine jx_icmp_ne (pc' := 67) (tg := 71) rfl rfl rfl (Int.le_trans (by decide : (-2147483648 : Int) ≤ 0) b2.1) (Int.le_trans b2.2 (by decide : (14 : Int) ≤ 2147483647)) (by decide) (by decide) (fun h21 => ?_) (fun h21 => ?_)
                  · have _q := h21
                    refine jx_ar (pc' := 72) (st' := [.int (i32 (0))]) rfl rfl rfl rfl ?_
                    refine jx_ld (pc' := 73) (l' := jSto1 L3 3 (.int (i32 (0)))) (st' := []) rfl rfl ?_
                    obtain ⟨L22, eL22⟩ : ∃ q, q = jSto1 L3 3 (.int (i32 (0))) := ⟨_, rfl⟩
                    rw [← eL22]
                    have gL22_0 : jGet L22 0 = some (.ref 66) := eL22 ▸ jg_ne (by decide) gL3_0 rfl
                    have gL22_1 : jGet L22 1 = some (.long (nm)) := eL22 ▸ jg_nel (by decide) gL3_1 (by decide)
                    have gL22_4 : jGet L22 4 = some (.int (i32 (s))) := eL22 ▸ jg_ne (by decide) gL3_4 rfl
                    have gL22_5 : jGet L22 5 = some (.int (i32 (A 7 (s).toNat))) := eL22 ▸ jg_ne (by decide) gL3_5 rfl
                    have gL22_3 : jGet L22 3 = some (.int (i32 (0))) := eL22 ▸ jg_eq
                    refine jx_inc (pc' := 76) (l' := jSto1 L22 4 (.int (i32 ((s + (1)))))) (x := s) rfl gL22_4 (by decide) rfl rfl ?_
                    obtain ⟨L23, eL23⟩ : ∃ q, q = jSto1 L22 4 (.int (i32 ((s + (1))))) := ⟨_, rfl⟩
                    rw [← eL23]
                    have gL23_0 : jGet L23 0 = some (.ref 66) := eL23 ▸ jg_ne (by decide) gL22_0 rfl
                    have gL23_1 : jGet L23 1 = some (.long (nm)) := eL23 ▸ jg_nel (by decide) gL22_1 (by decide)
                    have gL23_5 : jGet L23 5 = some (.int (i32 (A 7 (s).toNat))) := eL23 ▸ jg_ne (by decide) gL22_5 rfl
                    have gL23_3 : jGet L23 3 = some (.int (i32 (0))) := eL23 ▸ jg_ne (by decide) gL22_3 rfl
                    have gL23_4 : jGet L23 4 = some (.int (i32 ((s + (1))))) := eL23 ▸ jg_eq
                    refine jx_go (tg := 5) rfl rfl ?_
                    exact ih5 _ (by omega) L23 (0) ((s + (1))) rfl gL23_0 gL23_1 gL23_3 gL23_4 (by omega) (by omega) (by omega) (by omega)
                  · have _q := h21
                    refine jx_ar (pc' := 68) (st' := [.int (i32 (1))]) rfl rfl rfl rfl ?_
                    refine jx_go (tg := 72) rfl rfl ?_
                    refine jx_ld (pc' := 73) (l' := jSto1 L3 3 (.int (i32 (1)))) (st' := []) rfl rfl ?_
                    obtain ⟨L24, eL24⟩ : ∃ q, q = jSto1 L3 3 (.int (i32 (1))) := ⟨_, rfl⟩
                    rw [← eL24]
                    have gL24_0 : jGet L24 0 = some (.ref 66) := eL24 ▸ jg_ne (by decide) gL3_0 rfl
                    have gL24_1 : jGet L24 1 = some (.long (nm)) := eL24 ▸ jg_nel (by decide) gL3_1 (by decide)
                    have gL24_4 : jGet L24 4 = some (.int (i32 (s))) := eL24 ▸ jg_ne (by decide) gL3_4 rfl
                    have gL24_5 : jGet L24 5 = some (.int (i32 (A 7 (s).toNat))) := eL24 ▸ jg_ne (by decide) gL3_5 rfl
                    have gL24_3 : jGet L24 3 = some (.int (i32 (1))) := eL24 ▸ jg_eq
                    refine jx_inc (pc' := 76) (l' := jSto1 L24 4 (.int (i32 ((s + (1)))))) (x := s) rfl gL24_4 (by decide) rfl rfl ?_
                    obtain ⟨L25, eL25⟩ : ∃ q, q = jSto1 L24 4 (.int (i32 ((s + (1))))) := ⟨_, rfl⟩
                    rw [← eL25]
                    have gL25_0 : jGet L25 0 = some (.ref 66) := eL25 ▸ jg_ne (by decide) gL24_0 rfl
                    have gL25_1 : jGet L25 1 = some (.long (nm)) := eL25 ▸ jg_nel (by decide) gL24_1 (by decide)
                    have gL25_5 : jGet L25 5 = some (.int (i32 (A 7 (s).toNat))) := eL25 ▸ jg_ne (by decide) gL24_5 rfl
                    have gL25_3 : jGet L25 3 = some (.int (i32 (1))) := eL25 ▸ jg_ne (by decide) gL24_3 rfl
                    have gL25_4 : jGet L25 4 = some (.int (i32 ((s + (1))))) := eL25 ▸ jg_eq
                    refine jx_go (tg := 5) rfl rfl ?_
                    exact ih5 _ (by omega) L25 (1) ((s + (1))) rfl gL25_0 gL25_1 gL25_3 gL25_4 (by omega) (by omega) (by omega) (by omega)
  refine jx_ar (pc' := 1) (st' := [.int (i32 (0))]) rfl rfl rfl rfl ?_
  refine jx_ld (pc' := 2) (l' := jSto1 [(0, .ref 66), (1, .long (nm))] 3 (.int (i32 (0)))) (st' := []) rfl rfl ?_
  obtain ⟨L26, eL26⟩ : ∃ q, q = jSto1 [(0, .ref 66), (1, .long (nm))] 3 (.int (i32 (0))) := ⟨_, rfl⟩
  rw [← eL26]
  have gL26_0 : jGet L26 0 = some (.ref 66) := eL26 ▸ jg_ne (by decide) (rfl : jGet [(0, .ref 66), (1, .long (nm))] 0 = some (.ref 66)) rfl
  have gL26_1 : jGet L26 1 = some (.long (nm)) := eL26 ▸ jg_nel (by decide) (rfl : jGet [(0, .ref 66), (1, .long (nm))] 1 = some (.long (nm))) (by decide)
  have gL26_3 : jGet L26 3 = some (.int (i32 (0))) := eL26 ▸ jg_eq
  refine jx_ar (pc' := 3) (st' := [.int (i32 (0))]) rfl rfl rfl rfl ?_
  refine jx_ld (pc' := 5) (l' := jSto1 L26 4 (.int (i32 (0)))) (st' := []) rfl rfl ?_
  obtain ⟨L27, eL27⟩ : ∃ q, q = jSto1 L26 4 (.int (i32 (0))) := ⟨_, rfl⟩
  rw [← eL27]
  have gL27_0 : jGet L27 0 = some (.ref 66) := eL27 ▸ jg_ne (by decide) gL26_0 rfl
  have gL27_1 : jGet L27 1 = some (.long (nm)) := eL27 ▸ jg_nel (by decide) gL26_1 (by decide)
  have gL27_3 : jGet L27 3 = some (.int (i32 (0))) := eL27 ▸ jg_ne (by decide) gL26_3 rfl
  have gL27_4 : jGet L27 4 = some (.int (i32 (0))) := eL27 ▸ jg_eq
  exact at_5 _ L27 (0) (0) rfl gL27_0 gL27_1 gL27_3 gL27_4 (by omega) (by omega) (by omega) (by omega)
set_option maxRecDepth 20000 in
set_option maxHeartbeats 4000000 in
theorem c_readParameter {X : jX} {dd : Nat} {c0 c1 : jC} {G : Nat → Int} {A : Nat → Nat → Int} {T : jH} {fr : Int} {ln le at0 fk tk0 sy na : Int} (hd : 8 ≤ dd) (hW : Wk G A) (e_ln : G 9 = ln) (e_le : A 4 (ln).toNat = le) (e_at0 : G 10 = at0) (e_fk : G 16 = fk) (e_tk0 : G 11 = tk0) (e_sy : G 19 = sy) (e_na : G 28 = na) (h_fr : (-2147483648 : Int) ≤ fr ∧ fr ≤ 2147483647) (p_0 : fk = 0) (p_1 : at0 ≤ le) (p_2 : 0 ≤ fr ∧ fr ≤ sy) (p_3 : sy ≤ na + 2) : wk X dd 309 [.ref 66, .int (i32 fr)] (rV c0 c1 G A T) (fun o V' => ∃ (G' : Nat → Int) (A' : Nat → Nat → Int) (at2 : Int) (fk2 : Int) (sy2 : Int) (na2 : Int), V' = rV c0 c1 G' A' T ∧ o = .inl none ∧ Wk G' A' ∧ Fr [10, 11, 12, 13, 14, 16, 17, 18, 19, 28] [6, 7, 8, 9, 10, 11, 12] G A G' A' ∧ G' 10 = at2 ∧ G' 16 = fk2 ∧ G' 19 = sy2 ∧ G' 28 = na2 ∧ (at0 ≤ at2) ∧ (at2 ≤ le) ∧ (sy ≤ sy2) ∧ (sy2 ≤ na2 + 2) ∧ (((1 ≤ fk2)) ∨ ((fk2 = 0) ∧ (sy2 = sy + 1)))) := by
  obtain ⟨d, rfl⟩ : ∃ d, dd = d + 1 := ⟨dd - 1, by omega⟩
  refine wk_of (e := jm309) rfl (Nat.le_of_ble_eq_true rfl) ?_
  show wj X d jm309 (0, [(0, .ref 66), (1, .int (i32 (fr)))], [], rV c0 c1 G A T) _
  have hF0 : Fr [10, 11, 12, 13, 14, 16, 17, 18, 19, 28] [6, 7, 8, 9, 10, 11, 12] G A G A := Fr_rf
  have b_ln : (0 : Int) ≤ ln ∧ ln ≤ 3000 := e_ln ▸ hW.1 9
  have b_le : (0 : Int) ≤ le ∧ le ≤ 3000 := e_le ▸ hW.2 4 _
  have b_at0 : (0 : Int) ≤ at0 ∧ at0 ≤ 3002 := e_at0 ▸ hW.1 10
  have b_fk : (0 : Int) ≤ fk ∧ fk ≤ 6 := e_fk ▸ hW.1 16
  have b_tk0 : (0 : Int) ≤ tk0 ∧ tk0 ≤ 5 := e_tk0 ▸ hW.1 11
  have b_sy : (0 : Int) ≤ sy ∧ sy ≤ 202 := e_sy ▸ hW.1 19
  have b_na : (0 : Int) ≤ na ∧ na ≤ 200 := e_na ▸ hW.1 28
  have at_177 : ∀ (L : jL) (Gx : Nat → Int) (Ax : Nat → Nat → Int) (kd mn at1 tk1 fk1 : Int), jGet L 0 = some (.ref 66) → jGet L 1 = some (.int (i32 (fr))) → jGet L 2 = some (.int (i32 kd)) → jGet L 3 = some (.int (i32 mn)) → Wk Gx Ax → Fr [10, 11, 12, 13, 14, 16, 17, 18, 19, 28] [6, 7, 8, 9, 10, 11, 12] G A Gx Ax → Gx 10 = at1 → Gx 11 = tk1 → Gx 16 = fk1 → Gx 9 = ln → Gx 19 = sy → Gx 28 = na → ((-2147483648 : Int) ≤ kd ∧ kd ≤ 2147483647) → ((-2147483648 : Int) ≤ mn ∧ mn ≤ 2147483647) → (at0 ≤ at1) → (at1 ≤ le) → (5 ≤ kd ∧ kd ≤ 8) → wj X d jm309 (177, L, [], rV c0 c1 Gx Ax T) (fun o V' => ∃ (G' : Nat → Int) (A' : Nat → Nat → Int) (at2 : Int) (fk2 : Int) (sy2 : Int) (na2 : Int), V' = rV c0 c1 G' A' T ∧ o = .inl none ∧ Wk G' A' ∧ Fr [10, 11, 12, 13, 14, 16, 17, 18, 19, 28] [6, 7, 8, 9, 10, 11, 12] G A G' A' ∧ G' 10 = at2 ∧ G' 16 = fk2 ∧ G' 19 = sy2 ∧ G' 28 = na2 ∧ (at0 ≤ at2) ∧ (at2 ≤ le) ∧ (sy ≤ sy2) ∧ (sy2 ≤ na2 + 2) ∧ (((1 ≤ fk2)) ∨ ((fk2 = 0) ∧ (sy2 = sy + 1)))) := by
    intro L Gx Ax kd mn at1 tk1 fk1 gL_0 gL_1 gL_2 gL_3 hWx hFx ex_at1 ex_tk1 ex_fk1 fx_9 fx_19 fx_28 rx_kd rx_mn iv_0 iv_1 iv_2
    have b_at1 : (0 : Int) ≤ at1 ∧ at1 ≤ 3002 := ex_at1 ▸ hWx.1 10
    have b_tk1 : (0 : Int) ≤ tk1 ∧ tk1 ≤ 5 := ex_tk1 ▸ hWx.1 11
    have b_fk1 : (0 : Int) ≤ fk1 ∧ fk1 ≤ 6 := ex_fk1 ▸ hWx.1 16
    refine jx_ld (pc' := 178) (l' := L) (st' := [.ref 66]) rfl (jl_aloadn gL_0) ?_
    refine jx_ld (pc' := 179) (l' := L) (st' := [.int (i32 (kd)), .ref 66]) rfl (jl_iloadn gL_2) ?_
    refine jx_ld (pc' := 180) (l' := L) (st' := [.int (i32 (mn)), .int (i32 (kd)), .ref 66]) rfl (jl_iloadn gL_3) ?_
    refine jx_vr (pc' := 183) (as := [.int (i32 (kd)), .int (i32 (mn))]) (st := []) rfl rfl rfl rfl ⟨rfl, rfl, Nat.le_of_ble_eq_true rfl⟩ rfl rfl (c_newName (dd := d) (hd := by omega) (hW := hWx) (kind := kd) (many := mn) (sy := sy) (e_sy := show Gx 19 = sy from (fx_19)) (na := na) (e_na := show Gx 28 = na from (fx_28)) (fk := fk1) (e_fk := show Gx 16 = fk1 from (ex_fk1))  (h_kind := ⟨(Int.le_trans (by decide : (-2147483648 : Int) ≤ -2147483648) rx_kd.1), (Int.le_trans rx_kd.2 (by decide : (2147483647 : Int) ≤ 2147483647))⟩) (h_many := ⟨(Int.le_trans (by decide : (-2147483648 : Int) ≤ -2147483648) rx_mn.1), (Int.le_trans rx_mn.2 (by decide : (2147483647 : Int) ≤ 2147483647))⟩)  (p_0 := by omega) (p_1 := by omega)) (fun o V' hq => ?_)
    obtain ⟨G1, A2, r3, sy2_4, na2_5, fk2_6, rfl, rfl, hW7, hF8, b9, e10, e11, e12, q13⟩ := hq
    have hF14 := Fr_tr hFx hF8 (Fr_sub (by decide)) (Fr_sub (by decide))
    have bsy2_4 : (0 : Int) ≤ sy2_4 ∧ sy2_4 ≤ 202 := e10 ▸ hW7.1 19
    have bna2_5 : (0 : Int) ≤ na2_5 ∧ na2_5 ≤ 200 := e11 ▸ hW7.1 28
    have bfk2_6 : (0 : Int) ≤ fk2_6 ∧ fk2_6 ≤ 6 := e12 ▸ hW7.1 16
    refine .inr ⟨_, rfl, ?_⟩
    rcases q13 with ⟨a15, a16, a17, a18, a19⟩ | ⟨a20, a21, a22, a23⟩
    · have _q : True := trivial
      refine jx_ld (pc' := 185) (l' := jSto1 L 4 (.int (i32 (r3)))) (st' := []) rfl rfl ?_
      obtain ⟨L24, eL24⟩ : ∃ q, q = jSto1 L 4 (.int (i32 (r3))) := ⟨_, rfl⟩
      rw [← eL24]
      have gL24_0 : jGet L24 0 = some (.ref 66) := eL24 ▸ jg_ne (by decide) gL_0 rfl
      have gL24_1 : jGet L24 1 = some (.int (i32 (fr))) := eL24 ▸ jg_ne (by decide) gL_1 rfl
      have gL24_2 : jGet L24 2 = some (.int (i32 (kd))) := eL24 ▸ jg_ne (by decide) gL_2 rfl
      have gL24_3 : jGet L24 3 = some (.int (i32 (mn))) := eL24 ▸ jg_ne (by decide) gL_3 rfl
      have gL24_4 : jGet L24 4 = some (.int (i32 (r3))) := eL24 ▸ jg_eq
      refine jx_ld (pc' := 186) (l' := L24) (st' := [.ref 66]) rfl (jl_aloadn gL24_0) ?_
      refine jx_ar (pc' := 187) (st' := [.int (i32 (1)), .ref 66]) rfl rfl rfl rfl ?_
      refine jx_vr (pc' := 190) (as := [.int (i32 (1))]) (st := []) rfl rfl rfl rfl ⟨rfl, rfl, Nat.le_of_ble_eq_true rfl⟩ rfl rfl (c_need (dd := d) (hd := by omega) (hW := hW7) (g := 1) (ln := ln) (e_ln := show G1 9 = ln from ((hF8.1 9 rfl).trans (fx_9))) (le := le) (e_le := show A2 4 (ln).toNat = le from (congrFun ((hF8.2 4 rfl).trans (hFx.2 4 rfl)) _).trans (e_le)) (at0 := at1) (e_at0 := show G1 10 = at1 from ((hF8.1 10 rfl).trans (ex_at1))) (fk := fk2_6) (e_fk := show G1 16 = fk2_6 from (e12)) (tk0 := tk1) (e_tk0 := show G1 11 = tk1 from ((hF8.1 11 rfl).trans (ex_tk1)))  (h_g := ⟨(by decide), (by decide)⟩)  (p_0 := by omega)) (fun o V' hq => ?_)
      obtain ⟨G25, A26, at2_27, tk2_28, fk2_29, rfl, rfl, hW30, hF31, e32, e33, e34, p35, p36, q37⟩ := hq
      have hF38 := Fr_tr hF14 hF31 (Fr_sub (by decide)) (Fr_sub (by decide))
      have bat2_27 : (0 : Int) ≤ at2_27 ∧ at2_27 ≤ 3002 := e32 ▸ hW30.1 10
      have ztk2_28 := tz_b tk2_28
      have btk2_28 : (0 : Int) ≤ tk2_28 ∧ tk2_28 ≤ 5 := e33 ▸ hW30.1 11
      have bfk2_29 : (0 : Int) ≤ fk2_29 ∧ fk2_29 ≤ 6 := e34 ▸ hW30.1 16
      refine .inl ⟨rfl, ?_⟩
      rcases q37 with ⟨a39, a40, a41, a42⟩ | ⟨a43, a44, a45, a46⟩
      · have _q : True := trivial
        refine jx_rt (v := none) rfl rfl rfl rfl rfl rfl ?_
        exact ⟨_, _, at2_27, fk2_29, sy2_4, na2_5, rfl, rfl, hW30, hF38, (e32), (e34), ((hF31.1 19 rfl).trans (e10)), ((hF31.1 28 rfl).trans (e11)), by omega, by omega, by omega, by omega, by first | exact Or.inl (by omega) | exact Or.inr ((⟨by omega, by omega⟩))⟩
      · have _q : True := trivial
        refine jx_rt (v := none) rfl rfl rfl rfl rfl rfl ?_
        exact ⟨_, _, at2_27, fk2_29, sy2_4, na2_5, rfl, rfl, hW30, hF38, (e32), (e34), ((hF31.1 19 rfl).trans (e10)), ((hF31.1 28 rfl).trans (e11)), by omega, by omega, by omega, by omega, by first | exact Or.inl (by omega) | exact Or.inr ((⟨by omega, by omega⟩))⟩
    · have _q : True := trivial
      refine jx_ld (pc' := 185) (l' := jSto1 L 4 (.int (i32 (r3)))) (st' := []) rfl rfl ?_
      obtain ⟨L47, eL47⟩ : ∃ q, q = jSto1 L 4 (.int (i32 (r3))) := ⟨_, rfl⟩
      rw [← eL47]
      have gL47_0 : jGet L47 0 = some (.ref 66) := eL47 ▸ jg_ne (by decide) gL_0 rfl
      have gL47_1 : jGet L47 1 = some (.int (i32 (fr))) := eL47 ▸ jg_ne (by decide) gL_1 rfl
      have gL47_2 : jGet L47 2 = some (.int (i32 (kd))) := eL47 ▸ jg_ne (by decide) gL_2 rfl
      have gL47_3 : jGet L47 3 = some (.int (i32 (mn))) := eL47 ▸ jg_ne (by decide) gL_3 rfl
      have gL47_4 : jGet L47 4 = some (.int (i32 (r3))) := eL47 ▸ jg_eq
      refine jx_ld (pc' := 186) (l' := L47) (st' := [.ref 66]) rfl (jl_aloadn gL47_0) ?_
      refine jx_ar (pc' := 187) (st' := [.int (i32 (1)), .ref 66]) rfl rfl rfl rfl ?_
      refine jx_vr (pc' := 190) (as := [.int (i32 (1))]) (st := []) rfl rfl rfl rfl ⟨rfl, rfl, Nat.le_of_ble_eq_true rfl⟩ rfl rfl (c_need (dd := d) (hd := by omega) (hW := hW7) (g := 1) (ln := ln) (e_ln := show G1 9 = ln from ((hF8.1 9 rfl).trans (fx_9))) (le := le) (e_le := show A2 4 (ln).toNat = le from (congrFun ((hF8.2 4 rfl).trans (hFx.2 4 rfl)) _).trans (e_le)) (at0 := at1) (e_at0 := show G1 10 = at1 from ((hF8.1 10 rfl).trans (ex_at1))) (fk := fk2_6) (e_fk := show G1 16 = fk2_6 from (e12)) (tk0 := tk1) (e_tk0 := show G1 11 = tk1 from ((hF8.1 11 rfl).trans (ex_tk1)))  (h_g := ⟨(by decide), (by decide)⟩)  (p_0 := by omega)) (fun o V' hq => ?_)
      obtain ⟨G48, A49, at2_50, tk2_51, fk2_52, rfl, rfl, hW53, hF54, e55, e56, e57, p58, p59, q60⟩ := hq
      have hF61 := Fr_tr hF14 hF54 (Fr_sub (by decide)) (Fr_sub (by decide))
      have bat2_50 : (0 : Int) ≤ at2_50 ∧ at2_50 ≤ 3002 := e55 ▸ hW53.1 10
      have ztk2_51 := tz_b tk2_51
      have btk2_51 : (0 : Int) ≤ tk2_51 ∧ tk2_51 ≤ 5 := e56 ▸ hW53.1 11
      have bfk2_52 : (0 : Int) ≤ fk2_52 ∧ fk2_52 ≤ 6 := e57 ▸ hW53.1 16
      refine .inl ⟨rfl, ?_⟩
      rcases q60 with ⟨a62, a63, a64, a65⟩ | ⟨a66, a67, a68, a69⟩
      · have _q : True := trivial
        refine jx_rt (v := none) rfl rfl rfl rfl rfl rfl ?_
        exact ⟨_, _, at2_50, fk2_52, sy2_4, na2_5, rfl, rfl, hW53, hF61, (e55), (e57), ((hF54.1 19 rfl).trans (e10)), ((hF54.1 28 rfl).trans (e11)), by omega, by omega, by omega, by omega, by first | exact Or.inl (by omega) | exact Or.inr ((⟨by omega, by omega⟩))⟩
      · have _q : True := trivial
        exfalso
        omega
  have at_138 : ∀ (m : Nat) (L : jL) (Gx : Nat → Int) (Ax : Nat → Nat → Int) (kd mn s at1 tk1 fk1 : Int), (sy - s).toNat = m → jGet L 0 = some (.ref 66) → jGet L 1 = some (.int (i32 (fr))) → jGet L 2 = some (.int (i32 kd)) → jGet L 3 = some (.int (i32 mn)) → jGet L 4 = some (.int (i32 s)) → Wk Gx Ax → Fr [10, 11, 12, 13, 14, 16, 17, 18, 19, 28] [6, 7, 8, 9, 10, 11, 12] G A Gx Ax → Gx 10 = at1 → Gx 11 = tk1 → Gx 16 = fk1 → Gx 9 = ln → Gx 19 = sy → Gx 28 = na → ((-2147483648 : Int) ≤ kd ∧ kd ≤ 2147483647) → ((-2147483648 : Int) ≤ mn ∧ mn ≤ 2147483647) → ((-2147483648 : Int) ≤ s ∧ s ≤ 2147483647) → (at0 ≤ at1) → (at1 ≤ le) → (5 ≤ kd ∧ kd ≤ 8) → (fr ≤ s ∧ s ≤ sy) → wj X d jm309 (138, L, [], rV c0 c1 Gx Ax T) (fun o V' => ∃ (G' : Nat → Int) (A' : Nat → Nat → Int) (at2 : Int) (fk2 : Int) (sy2 : Int) (na2 : Int), V' = rV c0 c1 G' A' T ∧ o = .inl none ∧ Wk G' A' ∧ Fr [10, 11, 12, 13, 14, 16, 17, 18, 19, 28] [6, 7, 8, 9, 10, 11, 12] G A G' A' ∧ G' 10 = at2 ∧ G' 16 = fk2 ∧ G' 19 = sy2 ∧ G' 28 = na2 ∧ (at0 ≤ at2) ∧ (at2 ≤ le) ∧ (sy ≤ sy2) ∧ (sy2 ≤ na2 + 2) ∧ (((1 ≤ fk2)) ∨ ((fk2 = 0) ∧ (sy2 = sy + 1)))) := by
    intro m
    induction m using Nat.strongRecOn with
    | ind m ih138 =>
      intro L Gx Ax kd mn s at1 tk1 fk1 hm gL_0 gL_1 gL_2 gL_3 gL_4 hWx hFx ex_at1 ex_tk1 ex_fk1 fx_9 fx_19 fx_28 rx_kd rx_mn rx_s iv_0 iv_1 iv_2 iv_3
      have b_at1 : (0 : Int) ≤ at1 ∧ at1 ≤ 3002 := ex_at1 ▸ hWx.1 10
      have b_tk1 : (0 : Int) ≤ tk1 ∧ tk1 ≤ 5 := ex_tk1 ▸ hWx.1 11
      have b_fk1 : (0 : Int) ≤ fk1 ∧ fk1 ≤ 6 := ex_fk1 ▸ hWx.1 16
      refine jx_ld (pc' := 140) (l' := L) (st' := [.int (i32 (s))]) rfl (jl_iload gL_4) ?_
      refine jx_ld (pc' := 141) (l' := L) (st' := [.ref 66, .int (i32 (s))]) rfl (jl_aloadn gL_0) ?_
      refine jr_get (pc' := 144) (i := 19) (v := .int (i32 (sy))) rfl rfl (by decide) (rFv_eq (by decide) (show Gx 19 = sy from (fx_19))) rfl ?_
      refine jx_icmp_ge (pc' := 147) (tg := 177) rfl rfl rfl (Int.le_trans (by decide : (-2147483648 : Int) ≤ -2147483648) rx_s.1) (Int.le_trans rx_s.2 (by decide : (2147483647 : Int) ≤ 2147483647)) (Int.le_trans (by decide : (-2147483648 : Int) ≤ 0) b_sy.1) (Int.le_trans b_sy.2 (by decide : (202 : Int) ≤ 2147483647)) (fun h70 => ?_) (fun h70 => ?_)
      · have _q := h70
        exact at_177 L Gx Ax (kd) (mn) (at1) (tk1) (fk1) gL_0 gL_1 gL_2 gL_3 hWx hFx ((ex_at1)) ((ex_tk1)) ((ex_fk1)) ((fx_9)) ((fx_19)) ((fx_28)) (by omega) (by omega) (by omega) (by omega) (by omega)
      · have _q := h70
        refine jx_ld (pc' := 148) (l' := L) (st' := [.ref 66]) rfl (jl_aloadn gL_0) ?_
        refine jr_get (pc' := 151) (i := 20) (v := .ref 73) rfl rfl (by decide) rfl rfl ?_
        refine jx_ld (pc' := 153) (l' := L) (st' := [.int (i32 (s)), .ref 73]) rfl (jl_iload gL_4) ?_
        refine jr_llv (pc' := 154) (i := 6) (m := 260) (z := s) rfl (by decide) rfl (by decide) (by omega) (by omega) rfl (fun y71 => ?_)
        refine jx_ld (pc' := 155) (l' := L) (st' := [.ref 66, .long (y71)]) rfl (jl_aloadn gL_0) ?_
        refine jr_get (pc' := 158) (i := 14) (v := .long (i64 (Gx 14))) rfl rfl (by decide) rfl rfl ?_
        obtain ⟨y72, ey72⟩ : ∃ q : Int64, q = i64 (Gx 14) := ⟨_, rfl⟩
        rw [← ey72]
        refine jx_lcmp (pc' := 159) rfl rfl (fun r73 hr73 => ?_)
        refine jx_if_ne (pc' := 162) (tg := 171) rfl rfl rfl (by omega) (by omega) (fun h74 => ?_) (fun h74 => ?_)
        · have _q := h74
          refine jx_inc (pc' := 174) (l' := jSto1 L 4 (.int (i32 ((s + (1)))))) (x := s) rfl gL_4 (by decide) rfl rfl ?_
          obtain ⟨L75, eL75⟩ : ∃ q, q = jSto1 L 4 (.int (i32 ((s + (1))))) := ⟨_, rfl⟩
          rw [← eL75]
          have gL75_0 : jGet L75 0 = some (.ref 66) := eL75 ▸ jg_ne (by decide) gL_0 rfl
          have gL75_1 : jGet L75 1 = some (.int (i32 (fr))) := eL75 ▸ jg_ne (by decide) gL_1 rfl
          have gL75_2 : jGet L75 2 = some (.int (i32 (kd))) := eL75 ▸ jg_ne (by decide) gL_2 rfl
          have gL75_3 : jGet L75 3 = some (.int (i32 (mn))) := eL75 ▸ jg_ne (by decide) gL_3 rfl
          have gL75_4 : jGet L75 4 = some (.int (i32 ((s + (1))))) := eL75 ▸ jg_eq
          refine jx_go (tg := 138) rfl rfl ?_
          exact ih138 _ (by omega) L75 Gx Ax (kd) (mn) ((s + (1))) (at1) (tk1) (fk1) rfl gL75_0 gL75_1 gL75_2 gL75_3 gL75_4 hWx hFx ((ex_at1)) ((ex_tk1)) ((ex_fk1)) ((fx_9)) ((fx_19)) ((fx_28)) (by omega) (by omega) (by omega) (by omega) (by omega) (by omega) (by omega)
        · have _q := h74
          refine jx_ld (pc' := 163) (l' := L) (st' := [.ref 66]) rfl (jl_aloadn gL_0) ?_
          refine jx_ar (pc' := 164) (st' := [.int (i32 (2)), .ref 66]) rfl rfl rfl rfl ?_
          refine jx_ld (pc' := 165) (l' := L) (st' := [.ref 66, .int (i32 (2)), .ref 66]) rfl (jl_aloadn gL_0) ?_
          have b76 : (-3000 : Int) ≤ Gx 12 ∧ Gx 12 ≤ 3002 := hWx.1 12
          refine jr_get (pc' := 168) (i := 12) (v := .int (i32 (Gx 12))) rfl rfl (by decide) rfl rfl ?_
          refine jx_vr (pc' := 171) (as := [.int (i32 (2)), .int (i32 (Gx 12))]) (st := []) rfl rfl rfl rfl ⟨rfl, rfl, Nat.le_of_ble_eq_true rfl⟩ rfl rfl (c_fail (dd := d) (hd := by omega) (hW := hWx) (kind := 2) (place := Gx 12) (fk := fk1) (e_fk := show Gx 16 = fk1 from (ex_fk1))  (h_kind := ⟨(by decide), (by decide)⟩) (h_place := ⟨(Int.le_trans (by decide : (-2147483648 : Int) ≤ -3000) b76.1), (Int.le_trans b76.2 (by decide : (3002 : Int) ≤ 2147483647))⟩)  (p_0 := by omega) (p_1 := by omega)) (fun o V' hq => ?_)
          obtain ⟨G77, A78, fk2_79, rfl, rfl, hW80, hF81, e82, p83, -⟩ := hq
          have hF85 := Fr_tr hFx hF81 (Fr_sub (by decide)) (Fr_sub (by decide))
          have bfk2_79 : (0 : Int) ≤ fk2_79 ∧ fk2_79 ≤ 6 := e82 ▸ hW80.1 16
          refine .inl ⟨rfl, ?_⟩
          refine jx_inc (pc' := 174) (l' := jSto1 L 4 (.int (i32 ((s + (1)))))) (x := s) rfl gL_4 (by decide) rfl rfl ?_
          obtain ⟨L86, eL86⟩ : ∃ q, q = jSto1 L 4 (.int (i32 ((s + (1))))) := ⟨_, rfl⟩
          rw [← eL86]
          have gL86_0 : jGet L86 0 = some (.ref 66) := eL86 ▸ jg_ne (by decide) gL_0 rfl
          have gL86_1 : jGet L86 1 = some (.int (i32 (fr))) := eL86 ▸ jg_ne (by decide) gL_1 rfl
          have gL86_2 : jGet L86 2 = some (.int (i32 (kd))) := eL86 ▸ jg_ne (by decide) gL_2 rfl
          have gL86_3 : jGet L86 3 = some (.int (i32 (mn))) := eL86 ▸ jg_ne (by decide) gL_3 rfl
          have gL86_4 : jGet L86 4 = some (.int (i32 ((s + (1))))) := eL86 ▸ jg_eq
          refine jx_go (tg := 138) rfl rfl ?_
          exact ih138 _ (by omega) L86 G77 A78 (kd) (mn) ((s + (1))) (at1) (tk1) (fk2_79) rfl gL86_0 gL86_1 gL86_2 gL86_3 gL86_4 hW80 hF85 (((hF81.1 10 rfl).trans (ex_at1))) (((hF81.1 11 rfl).trans (ex_tk1))) ((e82)) (((hF81.1 9 rfl).trans (fx_9))) (((hF81.1 19 rfl).trans (fx_19))) (((hF81.1 28 rfl).trans (fx_28))) (by omega) (by omega) (by omega) (by omega) (by omega) (by omega) (by omega)
  have at_109 : ∀ (L : jL) (Gx : Nat → Int) (Ax : Nat → Nat → Int) (kd mn at1 tk1 fk1 : Int), jGet L 0 = some (.ref 66) → jGet L 1 = some (.int (i32 (fr))) → jGet L 2 = some (.int (i32 kd)) → jGet L 3 = some (.int (i32 mn)) → Wk Gx Ax → Fr [10, 11, 12, 13, 14, 16, 17, 18, 19, 28] [6, 7, 8, 9, 10, 11, 12] G A Gx Ax → Gx 10 = at1 → Gx 11 = tk1 → Gx 16 = fk1 → Gx 9 = ln → Gx 19 = sy → Gx 28 = na → ((-2147483648 : Int) ≤ kd ∧ kd ≤ 2147483647) → ((-2147483648 : Int) ≤ mn ∧ mn ≤ 2147483647) → (fk1 = 0) → (at0 ≤ at1) → (at1 ≤ le) → (5 ≤ kd ∧ kd ≤ 8) → wj X d jm309 (109, L, [], rV c0 c1 Gx Ax T) (fun o V' => ∃ (G' : Nat → Int) (A' : Nat → Nat → Int) (at2 : Int) (fk2 : Int) (sy2 : Int) (na2 : Int), V' = rV c0 c1 G' A' T ∧ o = .inl none ∧ Wk G' A' ∧ Fr [10, 11, 12, 13, 14, 16, 17, 18, 19, 28] [6, 7, 8, 9, 10, 11, 12] G A G' A' ∧ G' 10 = at2 ∧ G' 16 = fk2 ∧ G' 19 = sy2 ∧ G' 28 = na2 ∧ (at0 ≤ at2) ∧ (at2 ≤ le) ∧ (sy ≤ sy2) ∧ (sy2 ≤ na2 + 2) ∧ (((1 ≤ fk2)) ∨ ((fk2 = 0) ∧ (sy2 = sy + 1)))) := by
    intro L Gx Ax kd mn at1 tk1 fk1 gL_0 gL_1 gL_2 gL_3 hWx hFx ex_at1 ex_tk1 ex_fk1 fx_9 fx_19 fx_28 rx_kd rx_mn iv_0 iv_1 iv_2 iv_3
    have b_at1 : (0 : Int) ≤ at1 ∧ at1 ≤ 3002 := ex_at1 ▸ hWx.1 10
    have b_tk1 : (0 : Int) ≤ tk1 ∧ tk1 ≤ 5 := ex_tk1 ▸ hWx.1 11
    have b_fk1 : (0 : Int) ≤ fk1 ∧ fk1 ≤ 6 := ex_fk1 ▸ hWx.1 16
    refine jx_ld (pc' := 110) (l' := L) (st' := [.ref 66]) rfl (jl_aloadn gL_0) ?_
    refine jx_vr (pc' := 113) (as := []) (st := []) rfl rfl rfl rfl ⟨rfl, rfl, Nat.le_of_ble_eq_true rfl⟩ rfl rfl (c_bad (dd := d) (hd := by omega) (hW := hWx)  (fk := fk1) (e_fk := show Gx 16 = fk1 from (ex_fk1))    ) (fun o V' hq => ?_)
    obtain ⟨r87, rfl, rfl, b88, q89⟩ := hq
    refine .inr ⟨_, rfl, ?_⟩
    rcases q89 with ⟨rfl, a90⟩ | ⟨rfl, a91⟩
    · have _q : True := trivial
      exfalso
      omega
    · have _q : True := trivial
      refine jx_if_eq (pc' := 116) (tg := 117) rfl rfl rfl (by decide) (by decide) (fun h92 => ?_) (fun h92 => ?_)
      · have _q := h92
        refine jx_ld (pc' := 118) (l' := L) (st' := [.ref 66]) rfl (jl_aloadn gL_0) ?_
        refine jr_get (pc' := 121) (i := 11) (v := .int (i32 (tk1))) rfl rfl (by decide) (rFv_eq (by decide) (show Gx 11 = tk1 from (ex_tk1))) rfl ?_
        refine jx_ar (pc' := 122) (st' := [.int (i32 (1)), .int (i32 (tk1))]) rfl rfl rfl rfl ?_
        refine jx_icmp_eq (pc' := 125) (tg := 135) rfl rfl rfl (Int.le_trans (by decide : (-2147483648 : Int) ≤ 0) b_tk1.1) (Int.le_trans b_tk1.2 (by decide : (5 : Int) ≤ 2147483647)) (by decide) (by decide) (fun h93 => ?_) (fun h93 => ?_)
        · have _q := h93
          refine jx_ld (pc' := 136) (l' := L) (st' := [.int (i32 (fr))]) rfl (jl_iloadn gL_1) ?_
          refine jx_ld (pc' := 138) (l' := jSto1 L 4 (.int (i32 (fr)))) (st' := []) rfl rfl ?_
          obtain ⟨L94, eL94⟩ : ∃ q, q = jSto1 L 4 (.int (i32 (fr))) := ⟨_, rfl⟩
          rw [← eL94]
          have gL94_0 : jGet L94 0 = some (.ref 66) := eL94 ▸ jg_ne (by decide) gL_0 rfl
          have gL94_1 : jGet L94 1 = some (.int (i32 (fr))) := eL94 ▸ jg_ne (by decide) gL_1 rfl
          have gL94_2 : jGet L94 2 = some (.int (i32 (kd))) := eL94 ▸ jg_ne (by decide) gL_2 rfl
          have gL94_3 : jGet L94 3 = some (.int (i32 (mn))) := eL94 ▸ jg_ne (by decide) gL_3 rfl
          have gL94_4 : jGet L94 4 = some (.int (i32 (fr))) := eL94 ▸ jg_eq
          exact at_138 _ L94 Gx Ax (kd) (mn) (fr) (at1) (tk1) (fk1) rfl gL94_0 gL94_1 gL94_2 gL94_3 gL94_4 hWx hFx ((ex_at1)) ((ex_tk1)) ((ex_fk1)) ((fx_9)) ((fx_19)) ((fx_28)) (by omega) (by omega) (by omega) (by omega) (by omega) (by omega) (by omega)
        · have _q := h93
          refine jx_ld (pc' := 126) (l' := L) (st' := [.ref 66]) rfl (jl_aloadn gL_0) ?_
          refine jx_ar (pc' := 127) (st' := [.int (i32 (1)), .ref 66]) rfl rfl rfl rfl ?_
          refine jx_ld (pc' := 128) (l' := L) (st' := [.ref 66, .int (i32 (1)), .ref 66]) rfl (jl_aloadn gL_0) ?_
          have b95 : (-3000 : Int) ≤ Gx 12 ∧ Gx 12 ≤ 3002 := hWx.1 12
          refine jr_get (pc' := 131) (i := 12) (v := .int (i32 (Gx 12))) rfl rfl (by decide) rfl rfl ?_
          refine jx_vr (pc' := 134) (as := [.int (i32 (1)), .int (i32 (Gx 12))]) (st := []) rfl rfl rfl rfl ⟨rfl, rfl, Nat.le_of_ble_eq_true rfl⟩ rfl rfl (c_fail (dd := d) (hd := by omega) (hW := hWx) (kind := 1) (place := Gx 12) (fk := fk1) (e_fk := show Gx 16 = fk1 from (ex_fk1))  (h_kind := ⟨(by decide), (by decide)⟩) (h_place := ⟨(Int.le_trans (by decide : (-2147483648 : Int) ≤ -3000) b95.1), (Int.le_trans b95.2 (by decide : (3002 : Int) ≤ 2147483647))⟩)  (p_0 := by omega) (p_1 := by omega)) (fun o V' hq => ?_)
          obtain ⟨G96, A97, fk2_98, rfl, rfl, hW99, hF100, e101, p102, -⟩ := hq
          have hF104 := Fr_tr hFx hF100 (Fr_sub (by decide)) (Fr_sub (by decide))
          have bfk2_98 : (0 : Int) ≤ fk2_98 ∧ fk2_98 ≤ 6 := e101 ▸ hW99.1 16
          refine .inl ⟨rfl, ?_⟩
          refine jx_rt (v := none) rfl rfl rfl rfl rfl rfl ?_
          exact ⟨_, _, at1, fk2_98, sy, na, rfl, rfl, hW99, hF104, ((hF100.1 10 rfl).trans (ex_at1)), (e101), ((hF100.1 19 rfl).trans (fx_19)), ((hF100.1 28 rfl).trans (fx_28)), by omega, by omega, by omega, by omega, by first | exact Or.inl (by omega) | exact Or.inr ((⟨by omega, by omega⟩))⟩
      · have _q := h92
        exact absurd h92 (by omega)
  refine jx_ar (pc' := 2) (st' := [.int (i32 (6))]) rfl rfl rfl rfl ?_
  refine jx_ld (pc' := 3) (l' := jSto1 [(0, .ref 66), (1, .int (i32 (fr)))] 2 (.int (i32 (6)))) (st' := []) rfl rfl ?_
  obtain ⟨L105, eL105⟩ : ∃ q, q = jSto1 [(0, .ref 66), (1, .int (i32 (fr)))] 2 (.int (i32 (6))) := ⟨_, rfl⟩
  rw [← eL105]
  have gL105_0 : jGet L105 0 = some (.ref 66) := eL105 ▸ jg_ne (by decide) (rfl : jGet [(0, .ref 66), (1, .int (i32 (fr)))] 0 = some (.ref 66)) rfl
  have gL105_1 : jGet L105 1 = some (.int (i32 (fr))) := eL105 ▸ jg_ne (by decide) (rfl : jGet [(0, .ref 66), (1, .int (i32 (fr)))] 1 = some (.int (i32 (fr)))) rfl
  have gL105_2 : jGet L105 2 = some (.int (i32 (6))) := eL105 ▸ jg_eq
  refine jx_ar (pc' := 4) (st' := [.int (i32 (1))]) rfl rfl rfl rfl ?_
  refine jx_ld (pc' := 5) (l' := jSto1 L105 3 (.int (i32 (1)))) (st' := []) rfl rfl ?_
  obtain ⟨L106, eL106⟩ : ∃ q, q = jSto1 L105 3 (.int (i32 (1))) := ⟨_, rfl⟩
  rw [← eL106]
  have gL106_0 : jGet L106 0 = some (.ref 66) := eL106 ▸ jg_ne (by decide) gL105_0 rfl
  have gL106_1 : jGet L106 1 = some (.int (i32 (fr))) := eL106 ▸ jg_ne (by decide) gL105_1 rfl
  have gL106_2 : jGet L106 2 = some (.int (i32 (6))) := eL106 ▸ jg_ne (by decide) gL105_2 rfl
  have gL106_3 : jGet L106 3 = some (.int (i32 (1))) := eL106 ▸ jg_eq
  refine jx_ld (pc' := 6) (l' := L106) (st' := [.ref 66]) rfl (jl_aloadn gL106_0) ?_
  refine jx_ar (pc' := 8) (st' := [.int (i32 (11)), .ref 66]) rfl rfl rfl rfl ?_
  have b107 : (-2147483648 : Int) ≤ G 13 ∧ G 13 ≤ 2147483647 := hW.1 13
  refine jx_vr (pc' := 11) (as := [.int (i32 (11))]) (st := []) rfl rfl rfl rfl ⟨rfl, rfl, Nat.le_of_ble_eq_true rfl⟩ rfl rfl (c_isKey (dd := d) (hd := by omega) (hW := hW) (k := 11) (tk := tk0) (e_tk := show G 11 = tk0 from (e_tk0)) (tn := G 13) (e_tn := show G 13 = G 13 from rfl)  (h_k := ⟨(by decide), (by decide)⟩)  ) (fun o V' hq => ?_)
  obtain ⟨r108, rfl, rfl, b109, q110⟩ := hq
  refine .inr ⟨_, rfl, ?_⟩
  rcases q110 with ⟨rfl, a111, a112, a113⟩ | rfl
  · have _q : True := trivial
    refine jx_if_eq (pc' := 14) (tg := 33) rfl rfl rfl (by decide) (by decide) (fun h114 => ?_) (fun h114 => ?_)
    · have _q := h114
      exact absurd h114 (by omega)
    · have _q := h114
      refine jx_ar (pc' := 15) (st' := [.int (i32 (5))]) rfl rfl rfl rfl ?_
      refine jx_ld (pc' := 16) (l' := jSto1 L106 2 (.int (i32 (5)))) (st' := []) rfl rfl ?_
      obtain ⟨L115, eL115⟩ : ∃ q, q = jSto1 L106 2 (.int (i32 (5))) := ⟨_, rfl⟩
      rw [← eL115]
      have gL115_0 : jGet L115 0 = some (.ref 66) := eL115 ▸ jg_ne (by decide) gL106_0 rfl
      have gL115_1 : jGet L115 1 = some (.int (i32 (fr))) := eL115 ▸ jg_ne (by decide) gL106_1 rfl
      have gL115_3 : jGet L115 3 = some (.int (i32 (1))) := eL115 ▸ jg_ne (by decide) gL106_3 rfl
      have gL115_2 : jGet L115 2 = some (.int (i32 (5))) := eL115 ▸ jg_eq
      refine jx_ld (pc' := 17) (l' := L115) (st' := [.ref 66]) rfl (jl_aloadn gL115_0) ?_
      refine jx_vr (pc' := 20) (as := []) (st := []) rfl rfl rfl rfl ⟨rfl, rfl, Nat.le_of_ble_eq_true rfl⟩ rfl rfl (c_next (dd := d) (hd := by omega) (hW := hW)  (ln := ln) (e_ln := show G 9 = ln from (e_ln)) (le := le) (e_le := show A 4 (ln).toNat = le from (e_le)) (at0 := at0) (e_at0 := show G 10 = at0 from (e_at0))    (p_0 := by omega)) (fun o V' hq => ?_)
      obtain ⟨G116, A117, at2_118, tk2_119, rfl, rfl, hW120, hF121, e122, e123, p124, p125, p126, -⟩ := hq
      have hF128 := Fr_tr hF0 hF121 (Fr_sub (by decide)) (Fr_sub (by decide))
      have bat2_118 : (0 : Int) ≤ at2_118 ∧ at2_118 ≤ 3002 := e122 ▸ hW120.1 10
      have ztk2_119 := tz_b tk2_119
      have btk2_119 : (0 : Int) ≤ tk2_119 ∧ tk2_119 ≤ 5 := e123 ▸ hW120.1 11
      refine .inl ⟨rfl, ?_⟩
      refine jx_ld (pc' := 21) (l' := L115) (st' := [.ref 66]) rfl (jl_aloadn gL115_0) ?_
      refine jx_ld (pc' := 22) (l' := L115) (st' := [.ref 66, .ref 66]) rfl (jl_aloadn gL115_0) ?_
      refine jx_ar (pc' := 24) (st' := [.int (i32 (9)), .ref 66, .ref 66]) rfl rfl rfl rfl ?_
      have b129 : (-2147483648 : Int) ≤ G116 13 ∧ G116 13 ≤ 2147483647 := hW120.1 13
      refine jx_vr (pc' := 27) (as := [.int (i32 (9))]) (st := [.ref 66]) rfl rfl rfl rfl ⟨rfl, rfl, Nat.le_of_ble_eq_true rfl⟩ rfl rfl (c_isKey (dd := d) (hd := by omega) (hW := hW120) (k := 9) (tk := tk2_119) (e_tk := show G116 11 = tk2_119 from (e123)) (tn := G116 13) (e_tn := show G116 13 = G116 13 from rfl)  (h_k := ⟨(by decide), (by decide)⟩)  ) (fun o V' hq => ?_)
      obtain ⟨r130, rfl, rfl, b131, q132⟩ := hq
      refine .inr ⟨_, rfl, ?_⟩
      rcases q132 with ⟨rfl, a133, a134, a135⟩ | rfl
      · have _q : True := trivial
        refine jx_vr (pc' := 30) (as := [.int (i32 (1))]) (st := []) rfl rfl rfl rfl ⟨rfl, rfl, Nat.le_of_ble_eq_true rfl⟩ rfl rfl (c_need (dd := d) (hd := by omega) (hW := hW120) (g := 1) (ln := ln) (e_ln := show G116 9 = ln from ((hF121.1 9 rfl).trans (e_ln))) (le := le) (e_le := show A117 4 (ln).toNat = le from (congrFun (hF121.2 4 rfl) _).trans (e_le)) (at0 := at2_118) (e_at0 := show G116 10 = at2_118 from (e122)) (fk := fk) (e_fk := show G116 16 = fk from ((hF121.1 16 rfl).trans (e_fk))) (tk0 := tk2_119) (e_tk0 := show G116 11 = tk2_119 from (e123))  (h_g := ⟨(by decide), (by decide)⟩)  (p_0 := by omega)) (fun o V' hq => ?_)
        obtain ⟨G136, A137, at2_138, tk2_139, fk2_140, rfl, rfl, hW141, hF142, e143, e144, e145, p146, p147, q148⟩ := hq
        have hF149 := Fr_tr hF128 hF142 (Fr_sub (by decide)) (Fr_sub (by decide))
        have bat2_138 : (0 : Int) ≤ at2_138 ∧ at2_138 ≤ 3002 := e143 ▸ hW141.1 10
        have ztk2_139 := tz_b tk2_139
        have btk2_139 : (0 : Int) ≤ tk2_139 ∧ tk2_139 ≤ 5 := e144 ▸ hW141.1 11
        have bfk2_140 : (0 : Int) ≤ fk2_140 ∧ fk2_140 ≤ 6 := e145 ▸ hW141.1 16
        refine .inl ⟨rfl, ?_⟩
        rcases q148 with ⟨a150, a151, a152, a153⟩ | ⟨a154, a155, a156, a157⟩
        · have _q : True := trivial
          refine jx_go (tg := 109) rfl rfl ?_
          refine jx_ld (pc' := 110) (l' := L115) (st' := [.ref 66]) rfl (jl_aloadn gL115_0) ?_
          refine jx_vr (pc' := 113) (as := []) (st := []) rfl rfl rfl rfl ⟨rfl, rfl, Nat.le_of_ble_eq_true rfl⟩ rfl rfl (c_bad (dd := d) (hd := by omega) (hW := hW141)  (fk := fk2_140) (e_fk := show G136 16 = fk2_140 from (e145))    ) (fun o V' hq => ?_)
          obtain ⟨r158, rfl, rfl, b159, q160⟩ := hq
          refine .inr ⟨_, rfl, ?_⟩
          rcases q160 with ⟨rfl, a161⟩ | ⟨rfl, a162⟩
          · have _q : True := trivial
            refine jx_if_eq (pc' := 116) (tg := 117) rfl rfl rfl (by decide) (by decide) (fun h163 => ?_) (fun h163 => ?_)
            · have _q := h163
              exact absurd h163 (by omega)
            · have _q := h163
              refine jx_rt (v := none) rfl rfl rfl rfl rfl rfl ?_
              exact ⟨_, _, at2_138, fk2_140, sy, na, rfl, rfl, hW141, hF149, (e143), (e145), ((hF142.1 19 rfl).trans ((hF121.1 19 rfl).trans (e_sy))), ((hF142.1 28 rfl).trans ((hF121.1 28 rfl).trans (e_na))), by omega, by omega, by omega, by omega, by first | exact Or.inl (by omega) | exact Or.inr ((⟨by omega, by omega⟩))⟩
          · have _q : True := trivial
            exfalso
            omega
        · have _q : True := trivial
          refine jx_go (tg := 109) rfl rfl ?_
          exact at_109 L115 G136 A137 (5) (1) (at2_138) (tk2_139) (fk2_140) gL115_0 gL115_1 gL115_2 gL115_3 hW141 hF149 ((e143)) ((e144)) ((e145)) (((hF142.1 9 rfl).trans ((hF121.1 9 rfl).trans (e_ln)))) (((hF142.1 19 rfl).trans ((hF121.1 19 rfl).trans (e_sy)))) (((hF142.1 28 rfl).trans ((hF121.1 28 rfl).trans (e_na)))) (by omega) (by omega) (by omega) (by omega) (by omega) (by omega)
      · have _q : True := trivial
        refine jx_vr (pc' := 30) (as := [.int (i32 (0))]) (st := []) rfl rfl rfl rfl ⟨rfl, rfl, Nat.le_of_ble_eq_true rfl⟩ rfl rfl (c_need (dd := d) (hd := by omega) (hW := hW120) (g := 0) (ln := ln) (e_ln := show G116 9 = ln from ((hF121.1 9 rfl).trans (e_ln))) (le := le) (e_le := show A117 4 (ln).toNat = le from (congrFun (hF121.2 4 rfl) _).trans (e_le)) (at0 := at2_118) (e_at0 := show G116 10 = at2_118 from (e122)) (fk := fk) (e_fk := show G116 16 = fk from ((hF121.1 16 rfl).trans (e_fk))) (tk0 := tk2_119) (e_tk0 := show G116 11 = tk2_119 from (e123))  (h_g := ⟨(by decide), (by decide)⟩)  (p_0 := by omega)) (fun o V' hq => ?_)
        obtain ⟨G164, A165, at2_166, tk2_167, fk2_168, rfl, rfl, hW169, hF170, e171, e172, e173, p174, p175, q176⟩ := hq
        have hF177 := Fr_tr hF128 hF170 (Fr_sub (by decide)) (Fr_sub (by decide))
        have bat2_166 : (0 : Int) ≤ at2_166 ∧ at2_166 ≤ 3002 := e171 ▸ hW169.1 10
        have ztk2_167 := tz_b tk2_167
        have btk2_167 : (0 : Int) ≤ tk2_167 ∧ tk2_167 ≤ 5 := e172 ▸ hW169.1 11
        have bfk2_168 : (0 : Int) ≤ fk2_168 ∧ fk2_168 ≤ 6 := e173 ▸ hW169.1 16
        refine .inl ⟨rfl, ?_⟩
        rcases q176 with ⟨a178, a179, a180, a181⟩ | ⟨a182, a183, a184, a185⟩
        · have _q : True := trivial
          refine jx_go (tg := 109) rfl rfl ?_
          refine jx_ld (pc' := 110) (l' := L115) (st' := [.ref 66]) rfl (jl_aloadn gL115_0) ?_
          refine jx_vr (pc' := 113) (as := []) (st := []) rfl rfl rfl rfl ⟨rfl, rfl, Nat.le_of_ble_eq_true rfl⟩ rfl rfl (c_bad (dd := d) (hd := by omega) (hW := hW169)  (fk := fk2_168) (e_fk := show G164 16 = fk2_168 from (e173))    ) (fun o V' hq => ?_)
          obtain ⟨r186, rfl, rfl, b187, q188⟩ := hq
          refine .inr ⟨_, rfl, ?_⟩
          rcases q188 with ⟨rfl, a189⟩ | ⟨rfl, a190⟩
          · have _q : True := trivial
            refine jx_if_eq (pc' := 116) (tg := 117) rfl rfl rfl (by decide) (by decide) (fun h191 => ?_) (fun h191 => ?_)
            · have _q := h191
              exact absurd h191 (by omega)
            · have _q := h191
              refine jx_rt (v := none) rfl rfl rfl rfl rfl rfl ?_
              exact ⟨_, _, at2_166, fk2_168, sy, na, rfl, rfl, hW169, hF177, (e171), (e173), ((hF170.1 19 rfl).trans ((hF121.1 19 rfl).trans (e_sy))), ((hF170.1 28 rfl).trans ((hF121.1 28 rfl).trans (e_na))), by omega, by omega, by omega, by omega, by first | exact Or.inl (by omega) | exact Or.inr ((⟨by omega, by omega⟩))⟩
          · have _q : True := trivial
            exfalso
            omega
        · have _q : True := trivial
          exfalso
          omega
  · have _q : True := trivial
    refine jx_if_eq (pc' := 14) (tg := 33) rfl rfl rfl (by decide) (by decide) (fun h192 => ?_) (fun h192 => ?_)
    · have _q := h192
      refine jx_ld (pc' := 34) (l' := L106) (st' := [.ref 66]) rfl (jl_aloadn gL106_0) ?_
      refine jx_ar (pc' := 36) (st' := [.int (i32 (10)), .ref 66]) rfl rfl rfl rfl ?_
      refine jx_vr (pc' := 39) (as := [.int (i32 (10))]) (st := []) rfl rfl rfl rfl ⟨rfl, rfl, Nat.le_of_ble_eq_true rfl⟩ rfl rfl (c_isKey (dd := d) (hd := by omega) (hW := hW) (k := 10) (tk := tk0) (e_tk := show G 11 = tk0 from (e_tk0)) (tn := G 13) (e_tn := show G 13 = G 13 from rfl)  (h_k := ⟨(by decide), (by decide)⟩)  ) (fun o V' hq => ?_)
      obtain ⟨r193, rfl, rfl, b194, q195⟩ := hq
      refine .inr ⟨_, rfl, ?_⟩
      rcases q195 with ⟨rfl, a196, a197, a198⟩ | rfl
      · have _q : True := trivial
        refine jx_if_eq (pc' := 42) (tg := 52) rfl rfl rfl (by decide) (by decide) (fun h199 => ?_) (fun h199 => ?_)
        · have _q := h199
          exact absurd h199 (by omega)
        · have _q := h199
          refine jx_ar (pc' := 44) (st' := [.int (i32 (8))]) rfl rfl rfl rfl ?_
          refine jx_ld (pc' := 45) (l' := jSto1 L106 2 (.int (i32 (8)))) (st' := []) rfl rfl ?_
          obtain ⟨L200, eL200⟩ : ∃ q, q = jSto1 L106 2 (.int (i32 (8))) := ⟨_, rfl⟩
          rw [← eL200]
          have gL200_0 : jGet L200 0 = some (.ref 66) := eL200 ▸ jg_ne (by decide) gL106_0 rfl
          have gL200_1 : jGet L200 1 = some (.int (i32 (fr))) := eL200 ▸ jg_ne (by decide) gL106_1 rfl
          have gL200_3 : jGet L200 3 = some (.int (i32 (1))) := eL200 ▸ jg_ne (by decide) gL106_3 rfl
          have gL200_2 : jGet L200 2 = some (.int (i32 (8))) := eL200 ▸ jg_eq
          refine jx_ld (pc' := 46) (l' := L200) (st' := [.ref 66]) rfl (jl_aloadn gL200_0) ?_
          refine jx_vr (pc' := 49) (as := []) (st := []) rfl rfl rfl rfl ⟨rfl, rfl, Nat.le_of_ble_eq_true rfl⟩ rfl rfl (c_next (dd := d) (hd := by omega) (hW := hW)  (ln := ln) (e_ln := show G 9 = ln from (e_ln)) (le := le) (e_le := show A 4 (ln).toNat = le from (e_le)) (at0 := at0) (e_at0 := show G 10 = at0 from (e_at0))    (p_0 := by omega)) (fun o V' hq => ?_)
          obtain ⟨G201, A202, at2_203, tk2_204, rfl, rfl, hW205, hF206, e207, e208, p209, p210, p211, -⟩ := hq
          have hF213 := Fr_tr hF0 hF206 (Fr_sub (by decide)) (Fr_sub (by decide))
          have bat2_203 : (0 : Int) ≤ at2_203 ∧ at2_203 ≤ 3002 := e207 ▸ hW205.1 10
          have ztk2_204 := tz_b tk2_204
          have btk2_204 : (0 : Int) ≤ tk2_204 ∧ tk2_204 ≤ 5 := e208 ▸ hW205.1 11
          refine .inl ⟨rfl, ?_⟩
          refine jx_go (tg := 109) rfl rfl ?_
          exact at_109 L200 G201 A202 (8) (1) (at2_203) (tk2_204) (fk) gL200_0 gL200_1 gL200_2 gL200_3 hW205 hF213 ((e207)) ((e208)) (((hF206.1 16 rfl).trans (e_fk))) (((hF206.1 9 rfl).trans (e_ln))) (((hF206.1 19 rfl).trans (e_sy))) (((hF206.1 28 rfl).trans (e_na))) (by omega) (by omega) (by omega) (by omega) (by omega) (by omega)
      · have _q : True := trivial
        refine jx_if_eq (pc' := 42) (tg := 52) rfl rfl rfl (by decide) (by decide) (fun h214 => ?_) (fun h214 => ?_)
        · have _q := h214
          refine jx_ld (pc' := 53) (l' := L106) (st' := [.ref 66]) rfl (jl_aloadn gL106_0) ?_
          refine jx_ar (pc' := 55) (st' := [.int (i32 (91)), .ref 66]) rfl rfl rfl rfl ?_
          refine jx_vr (pc' := 58) (as := [.int (i32 (91))]) (st := []) rfl rfl rfl rfl ⟨rfl, rfl, Nat.le_of_ble_eq_true rfl⟩ rfl rfl (c_is (dd := d) (hd := by omega) (hW := hW) (k := 91) (tk := tk0) (e_tk := show G 11 = tk0 from (e_tk0)) (tn := G 13) (e_tn := show G 13 = G 13 from rfl)  (h_k := ⟨(by decide), (by decide)⟩)  ) (fun o V' hq => ?_)
          obtain ⟨r215, rfl, rfl, b216, q217⟩ := hq
          refine .inr ⟨_, rfl, ?_⟩
          rcases q217 with ⟨rfl, a218, a219, a220⟩ | rfl
          · have _q : True := trivial
            refine jx_if_eq (pc' := 61) (tg := 99) rfl rfl rfl (by decide) (by decide) (fun h221 => ?_) (fun h221 => ?_)
            · have _q := h221
              exact absurd h221 (by omega)
            · have _q := h221
              refine jx_ar (pc' := 63) (st' := [.int (i32 (7))]) rfl rfl rfl rfl ?_
              refine jx_ld (pc' := 64) (l' := jSto1 L106 2 (.int (i32 (7)))) (st' := []) rfl rfl ?_
              obtain ⟨L222, eL222⟩ : ∃ q, q = jSto1 L106 2 (.int (i32 (7))) := ⟨_, rfl⟩
              rw [← eL222]
              have gL222_0 : jGet L222 0 = some (.ref 66) := eL222 ▸ jg_ne (by decide) gL106_0 rfl
              have gL222_1 : jGet L222 1 = some (.int (i32 (fr))) := eL222 ▸ jg_ne (by decide) gL106_1 rfl
              have gL222_3 : jGet L222 3 = some (.int (i32 (1))) := eL222 ▸ jg_ne (by decide) gL106_3 rfl
              have gL222_2 : jGet L222 2 = some (.int (i32 (7))) := eL222 ▸ jg_eq
              refine jx_ld (pc' := 65) (l' := L222) (st' := [.ref 66]) rfl (jl_aloadn gL222_0) ?_
              refine jx_vr (pc' := 68) (as := []) (st := []) rfl rfl rfl rfl ⟨rfl, rfl, Nat.le_of_ble_eq_true rfl⟩ rfl rfl (c_next (dd := d) (hd := by omega) (hW := hW)  (ln := ln) (e_ln := show G 9 = ln from (e_ln)) (le := le) (e_le := show A 4 (ln).toNat = le from (e_le)) (at0 := at0) (e_at0 := show G 10 = at0 from (e_at0))    (p_0 := by omega)) (fun o V' hq => ?_)
              obtain ⟨G223, A224, at2_225, tk2_226, rfl, rfl, hW227, hF228, e229, e230, p231, p232, p233, -⟩ := hq
              have hF235 := Fr_tr hF0 hF228 (Fr_sub (by decide)) (Fr_sub (by decide))
              have bat2_225 : (0 : Int) ≤ at2_225 ∧ at2_225 ≤ 3002 := e229 ▸ hW227.1 10
              have ztk2_226 := tz_b tk2_226
              have btk2_226 : (0 : Int) ≤ tk2_226 ∧ tk2_226 ≤ 5 := e230 ▸ hW227.1 11
              refine .inl ⟨rfl, ?_⟩
              refine jx_ld (pc' := 69) (l' := L222) (st' := [.ref 66]) rfl (jl_aloadn gL222_0) ?_
              refine jx_ar (pc' := 70) (st' := [.int (i32 (1)), .ref 66]) rfl rfl rfl rfl ?_
              refine jx_ar (pc' := 72) (st' := [.int (i32 (64)), .int (i32 (1)), .ref 66]) rfl rfl rfl rfl ?_
              refine jx_vr (pc' := 75) (as := [.int (i32 (1)), .int (i32 (64))]) (st := []) rfl rfl rfl rfl ⟨rfl, rfl, Nat.le_of_ble_eq_true rfl⟩ rfl rfl (c_needNumber (dd := d) (hd := by omega) (hW := hW227) (lo := 1) (hi := 64) (ln := ln) (e_ln := show G223 9 = ln from ((hF228.1 9 rfl).trans (e_ln))) (le := le) (e_le := show A224 4 (ln).toNat = le from (congrFun (hF228.2 4 rfl) _).trans (e_le)) (at0 := at2_225) (e_at0 := show G223 10 = at2_225 from (e229)) (fk := fk) (e_fk := show G223 16 = fk from ((hF228.1 16 rfl).trans (e_fk))) (tk0 := tk2_226) (e_tk0 := show G223 11 = tk2_226 from (e230))  (h_lo := ⟨(by decide), (by decide)⟩) (h_hi := ⟨(by decide), (by decide)⟩)  (p_0 := by omega)) (fun o V' hq => ?_)
              obtain ⟨G236, A237, r238, at2_239, tk2_240, fk2_241, rfl, rfl, hW242, hF243, b244, e245, e246, e247, p248, p249, q250⟩ := hq
              have hF251 := Fr_tr hF235 hF243 (Fr_sub (by decide)) (Fr_sub (by decide))
              have bat2_239 : (0 : Int) ≤ at2_239 ∧ at2_239 ≤ 3002 := e245 ▸ hW242.1 10
              have ztk2_240 := tz_b tk2_240
              have btk2_240 : (0 : Int) ≤ tk2_240 ∧ tk2_240 ≤ 5 := e246 ▸ hW242.1 11
              have bfk2_241 : (0 : Int) ≤ fk2_241 ∧ fk2_241 ≤ 6 := e247 ▸ hW242.1 16
              refine .inr ⟨_, rfl, ?_⟩
              rcases q250 with ⟨a252, a253, a254, a255⟩ | ⟨a256, a257, a258, a259, a260⟩
              · have _q : True := trivial
                refine jx_ld (pc' := 76) (l' := jSto1 L222 3 (.int (i32 (r238)))) (st' := []) rfl rfl ?_
                obtain ⟨L261, eL261⟩ : ∃ q, q = jSto1 L222 3 (.int (i32 (r238))) := ⟨_, rfl⟩
                rw [← eL261]
                have gL261_0 : jGet L261 0 = some (.ref 66) := eL261 ▸ jg_ne (by decide) gL222_0 rfl
                have gL261_1 : jGet L261 1 = some (.int (i32 (fr))) := eL261 ▸ jg_ne (by decide) gL222_1 rfl
                have gL261_2 : jGet L261 2 = some (.int (i32 (7))) := eL261 ▸ jg_ne (by decide) gL222_2 rfl
                have gL261_3 : jGet L261 3 = some (.int (i32 (r238))) := eL261 ▸ jg_eq
                refine jx_ld (pc' := 77) (l' := L261) (st' := [.ref 66]) rfl (jl_aloadn gL261_0) ?_
                refine jx_ld (pc' := 78) (l' := L261) (st' := [.ref 66, .ref 66]) rfl (jl_aloadn gL261_0) ?_
                refine jx_ar (pc' := 80) (st' := [.int (i32 (93)), .ref 66, .ref 66]) rfl rfl rfl rfl ?_
                have b262 : (-2147483648 : Int) ≤ G236 13 ∧ G236 13 ≤ 2147483647 := hW242.1 13
                refine jx_vr (pc' := 83) (as := [.int (i32 (93))]) (st := [.ref 66]) rfl rfl rfl rfl ⟨rfl, rfl, Nat.le_of_ble_eq_true rfl⟩ rfl rfl (c_is (dd := d) (hd := by omega) (hW := hW242) (k := 93) (tk := tk2_240) (e_tk := show G236 11 = tk2_240 from (e246)) (tn := G236 13) (e_tn := show G236 13 = G236 13 from rfl)  (h_k := ⟨(by decide), (by decide)⟩)  ) (fun o V' hq => ?_)
                obtain ⟨r263, rfl, rfl, b264, q265⟩ := hq
                refine .inr ⟨_, rfl, ?_⟩
                rcases q265 with ⟨rfl, a266, a267, a268⟩ | rfl
                · have _q : True := trivial
                  refine jx_vr (pc' := 86) (as := [.int (i32 (1))]) (st := []) rfl rfl rfl rfl ⟨rfl, rfl, Nat.le_of_ble_eq_true rfl⟩ rfl rfl (c_need (dd := d) (hd := by omega) (hW := hW242) (g := 1) (ln := ln) (e_ln := show G236 9 = ln from ((hF243.1 9 rfl).trans ((hF228.1 9 rfl).trans (e_ln)))) (le := le) (e_le := show A237 4 (ln).toNat = le from (congrFun ((hF243.2 4 rfl).trans (hF228.2 4 rfl)) _).trans (e_le)) (at0 := at2_239) (e_at0 := show G236 10 = at2_239 from (e245)) (fk := fk2_241) (e_fk := show G236 16 = fk2_241 from (e247)) (tk0 := tk2_240) (e_tk0 := show G236 11 = tk2_240 from (e246))  (h_g := ⟨(by decide), (by decide)⟩)  (p_0 := by omega)) (fun o V' hq => ?_)
                  obtain ⟨G269, A270, at2_271, tk2_272, fk2_273, rfl, rfl, hW274, hF275, e276, e277, e278, p279, p280, q281⟩ := hq
                  have hF282 := Fr_tr hF251 hF275 (Fr_sub (by decide)) (Fr_sub (by decide))
                  have bat2_271 : (0 : Int) ≤ at2_271 ∧ at2_271 ≤ 3002 := e276 ▸ hW274.1 10
                  have ztk2_272 := tz_b tk2_272
                  have btk2_272 : (0 : Int) ≤ tk2_272 ∧ tk2_272 ≤ 5 := e277 ▸ hW274.1 11
                  have bfk2_273 : (0 : Int) ≤ fk2_273 ∧ fk2_273 ≤ 6 := e278 ▸ hW274.1 16
                  refine .inl ⟨rfl, ?_⟩
                  rcases q281 with ⟨a283, a284, a285, a286⟩ | ⟨a287, a288, a289, a290⟩
                  · have _q : True := trivial
                    refine jx_ld (pc' := 87) (l' := L261) (st' := [.ref 66]) rfl (jl_aloadn gL261_0) ?_
                    refine jx_ld (pc' := 88) (l' := L261) (st' := [.ref 66, .ref 66]) rfl (jl_aloadn gL261_0) ?_
                    refine jx_ar (pc' := 90) (st' := [.int (i32 (9)), .ref 66, .ref 66]) rfl rfl rfl rfl ?_
                    have b291 : (-2147483648 : Int) ≤ G269 13 ∧ G269 13 ≤ 2147483647 := hW274.1 13
                    refine jx_vr (pc' := 93) (as := [.int (i32 (9))]) (st := [.ref 66]) rfl rfl rfl rfl ⟨rfl, rfl, Nat.le_of_ble_eq_true rfl⟩ rfl rfl (c_isKey (dd := d) (hd := by omega) (hW := hW274) (k := 9) (tk := tk2_272) (e_tk := show G269 11 = tk2_272 from (e277)) (tn := G269 13) (e_tn := show G269 13 = G269 13 from rfl)  (h_k := ⟨(by decide), (by decide)⟩)  ) (fun o V' hq => ?_)
                    obtain ⟨r292, rfl, rfl, b293, q294⟩ := hq
                    refine .inr ⟨_, rfl, ?_⟩
                    rcases q294 with ⟨rfl, a295, a296, a297⟩ | rfl
                    · have _q : True := trivial
                      refine jx_vr (pc' := 96) (as := [.int (i32 (1))]) (st := []) rfl rfl rfl rfl ⟨rfl, rfl, Nat.le_of_ble_eq_true rfl⟩ rfl rfl (c_need (dd := d) (hd := by omega) (hW := hW274) (g := 1) (ln := ln) (e_ln := show G269 9 = ln from ((hF275.1 9 rfl).trans ((hF243.1 9 rfl).trans ((hF228.1 9 rfl).trans (e_ln))))) (le := le) (e_le := show A270 4 (ln).toNat = le from (congrFun ((hF275.2 4 rfl).trans ((hF243.2 4 rfl).trans (hF228.2 4 rfl))) _).trans (e_le)) (at0 := at2_271) (e_at0 := show G269 10 = at2_271 from (e276)) (fk := fk2_273) (e_fk := show G269 16 = fk2_273 from (e278)) (tk0 := tk2_272) (e_tk0 := show G269 11 = tk2_272 from (e277))  (h_g := ⟨(by decide), (by decide)⟩)  (p_0 := by omega)) (fun o V' hq => ?_)
                      obtain ⟨G298, A299, at2_300, tk2_301, fk2_302, rfl, rfl, hW303, hF304, e305, e306, e307, p308, p309, q310⟩ := hq
                      have hF311 := Fr_tr hF282 hF304 (Fr_sub (by decide)) (Fr_sub (by decide))
                      have bat2_300 : (0 : Int) ≤ at2_300 ∧ at2_300 ≤ 3002 := e305 ▸ hW303.1 10
                      have ztk2_301 := tz_b tk2_301
                      have btk2_301 : (0 : Int) ≤ tk2_301 ∧ tk2_301 ≤ 5 := e306 ▸ hW303.1 11
                      have bfk2_302 : (0 : Int) ≤ fk2_302 ∧ fk2_302 ≤ 6 := e307 ▸ hW303.1 16
                      refine .inl ⟨rfl, ?_⟩
                      rcases q310 with ⟨a312, a313, a314, a315⟩ | ⟨a316, a317, a318, a319⟩
                      · have _q : True := trivial
                        refine jx_go (tg := 109) rfl rfl ?_
                        refine jx_ld (pc' := 110) (l' := L261) (st' := [.ref 66]) rfl (jl_aloadn gL261_0) ?_
                        refine jx_vr (pc' := 113) (as := []) (st := []) rfl rfl rfl rfl ⟨rfl, rfl, Nat.le_of_ble_eq_true rfl⟩ rfl rfl (c_bad (dd := d) (hd := by omega) (hW := hW303)  (fk := fk2_302) (e_fk := show G298 16 = fk2_302 from (e307))    ) (fun o V' hq => ?_)
                        obtain ⟨r320, rfl, rfl, b321, q322⟩ := hq
                        refine .inr ⟨_, rfl, ?_⟩
                        rcases q322 with ⟨rfl, a323⟩ | ⟨rfl, a324⟩
                        · have _q : True := trivial
                          refine jx_if_eq (pc' := 116) (tg := 117) rfl rfl rfl (by decide) (by decide) (fun h325 => ?_) (fun h325 => ?_)
                          · have _q := h325
                            exact absurd h325 (by omega)
                          · have _q := h325
                            refine jx_rt (v := none) rfl rfl rfl rfl rfl rfl ?_
                            exact ⟨_, _, at2_300, fk2_302, sy, na, rfl, rfl, hW303, hF311, (e305), (e307), ((hF304.1 19 rfl).trans ((hF275.1 19 rfl).trans ((hF243.1 19 rfl).trans ((hF228.1 19 rfl).trans (e_sy))))), ((hF304.1 28 rfl).trans ((hF275.1 28 rfl).trans ((hF243.1 28 rfl).trans ((hF228.1 28 rfl).trans (e_na))))), by omega, by omega, by omega, by omega, by first | exact Or.inl (by omega) | exact Or.inr ((⟨by omega, by omega⟩))⟩
                        · have _q : True := trivial
                          exfalso
                          omega
                      · have _q : True := trivial
                        exfalso
                        omega
                    · have _q : True := trivial
                      refine jx_vr (pc' := 96) (as := [.int (i32 (0))]) (st := []) rfl rfl rfl rfl ⟨rfl, rfl, Nat.le_of_ble_eq_true rfl⟩ rfl rfl (c_need (dd := d) (hd := by omega) (hW := hW274) (g := 0) (ln := ln) (e_ln := show G269 9 = ln from ((hF275.1 9 rfl).trans ((hF243.1 9 rfl).trans ((hF228.1 9 rfl).trans (e_ln))))) (le := le) (e_le := show A270 4 (ln).toNat = le from (congrFun ((hF275.2 4 rfl).trans ((hF243.2 4 rfl).trans (hF228.2 4 rfl))) _).trans (e_le)) (at0 := at2_271) (e_at0 := show G269 10 = at2_271 from (e276)) (fk := fk2_273) (e_fk := show G269 16 = fk2_273 from (e278)) (tk0 := tk2_272) (e_tk0 := show G269 11 = tk2_272 from (e277))  (h_g := ⟨(by decide), (by decide)⟩)  (p_0 := by omega)) (fun o V' hq => ?_)
                      obtain ⟨G326, A327, at2_328, tk2_329, fk2_330, rfl, rfl, hW331, hF332, e333, e334, e335, p336, p337, q338⟩ := hq
                      have hF339 := Fr_tr hF282 hF332 (Fr_sub (by decide)) (Fr_sub (by decide))
                      have bat2_328 : (0 : Int) ≤ at2_328 ∧ at2_328 ≤ 3002 := e333 ▸ hW331.1 10
                      have ztk2_329 := tz_b tk2_329
                      have btk2_329 : (0 : Int) ≤ tk2_329 ∧ tk2_329 ≤ 5 := e334 ▸ hW331.1 11
                      have bfk2_330 : (0 : Int) ≤ fk2_330 ∧ fk2_330 ≤ 6 := e335 ▸ hW331.1 16
                      refine .inl ⟨rfl, ?_⟩
                      rcases q338 with ⟨a340, a341, a342, a343⟩ | ⟨a344, a345, a346, a347⟩
                      · have _q : True := trivial
                        refine jx_go (tg := 109) rfl rfl ?_
                        refine jx_ld (pc' := 110) (l' := L261) (st' := [.ref 66]) rfl (jl_aloadn gL261_0) ?_
                        refine jx_vr (pc' := 113) (as := []) (st := []) rfl rfl rfl rfl ⟨rfl, rfl, Nat.le_of_ble_eq_true rfl⟩ rfl rfl (c_bad (dd := d) (hd := by omega) (hW := hW331)  (fk := fk2_330) (e_fk := show G326 16 = fk2_330 from (e335))    ) (fun o V' hq => ?_)
                        obtain ⟨r348, rfl, rfl, b349, q350⟩ := hq
                        refine .inr ⟨_, rfl, ?_⟩
                        rcases q350 with ⟨rfl, a351⟩ | ⟨rfl, a352⟩
                        · have _q : True := trivial
                          refine jx_if_eq (pc' := 116) (tg := 117) rfl rfl rfl (by decide) (by decide) (fun h353 => ?_) (fun h353 => ?_)
                          · have _q := h353
                            exact absurd h353 (by omega)
                          · have _q := h353
                            refine jx_rt (v := none) rfl rfl rfl rfl rfl rfl ?_
                            exact ⟨_, _, at2_328, fk2_330, sy, na, rfl, rfl, hW331, hF339, (e333), (e335), ((hF332.1 19 rfl).trans ((hF275.1 19 rfl).trans ((hF243.1 19 rfl).trans ((hF228.1 19 rfl).trans (e_sy))))), ((hF332.1 28 rfl).trans ((hF275.1 28 rfl).trans ((hF243.1 28 rfl).trans ((hF228.1 28 rfl).trans (e_na))))), by omega, by omega, by omega, by omega, by first | exact Or.inl (by omega) | exact Or.inr ((⟨by omega, by omega⟩))⟩
                        · have _q : True := trivial
                          exfalso
                          omega
                      · have _q : True := trivial
                        exfalso
                        omega
                  · have _q : True := trivial
                    exfalso
                    omega
                · have _q : True := trivial
                  refine jx_vr (pc' := 86) (as := [.int (i32 (0))]) (st := []) rfl rfl rfl rfl ⟨rfl, rfl, Nat.le_of_ble_eq_true rfl⟩ rfl rfl (c_need (dd := d) (hd := by omega) (hW := hW242) (g := 0) (ln := ln) (e_ln := show G236 9 = ln from ((hF243.1 9 rfl).trans ((hF228.1 9 rfl).trans (e_ln)))) (le := le) (e_le := show A237 4 (ln).toNat = le from (congrFun ((hF243.2 4 rfl).trans (hF228.2 4 rfl)) _).trans (e_le)) (at0 := at2_239) (e_at0 := show G236 10 = at2_239 from (e245)) (fk := fk2_241) (e_fk := show G236 16 = fk2_241 from (e247)) (tk0 := tk2_240) (e_tk0 := show G236 11 = tk2_240 from (e246))  (h_g := ⟨(by decide), (by decide)⟩)  (p_0 := by omega)) (fun o V' hq => ?_)
                  obtain ⟨G354, A355, at2_356, tk2_357, fk2_358, rfl, rfl, hW359, hF360, e361, e362, e363, p364, p365, q366⟩ := hq
                  have hF367 := Fr_tr hF251 hF360 (Fr_sub (by decide)) (Fr_sub (by decide))
                  have bat2_356 : (0 : Int) ≤ at2_356 ∧ at2_356 ≤ 3002 := e361 ▸ hW359.1 10
                  have ztk2_357 := tz_b tk2_357
                  have btk2_357 : (0 : Int) ≤ tk2_357 ∧ tk2_357 ≤ 5 := e362 ▸ hW359.1 11
                  have bfk2_358 : (0 : Int) ≤ fk2_358 ∧ fk2_358 ≤ 6 := e363 ▸ hW359.1 16
                  refine .inl ⟨rfl, ?_⟩
                  rcases q366 with ⟨a368, a369, a370, a371⟩ | ⟨a372, a373, a374, a375⟩
                  · have _q : True := trivial
                    refine jx_ld (pc' := 87) (l' := L261) (st' := [.ref 66]) rfl (jl_aloadn gL261_0) ?_
                    refine jx_ld (pc' := 88) (l' := L261) (st' := [.ref 66, .ref 66]) rfl (jl_aloadn gL261_0) ?_
                    refine jx_ar (pc' := 90) (st' := [.int (i32 (9)), .ref 66, .ref 66]) rfl rfl rfl rfl ?_
                    have b376 : (-2147483648 : Int) ≤ G354 13 ∧ G354 13 ≤ 2147483647 := hW359.1 13
                    refine jx_vr (pc' := 93) (as := [.int (i32 (9))]) (st := [.ref 66]) rfl rfl rfl rfl ⟨rfl, rfl, Nat.le_of_ble_eq_true rfl⟩ rfl rfl (c_isKey (dd := d) (hd := by omega) (hW := hW359) (k := 9) (tk := tk2_357) (e_tk := show G354 11 = tk2_357 from (e362)) (tn := G354 13) (e_tn := show G354 13 = G354 13 from rfl)  (h_k := ⟨(by decide), (by decide)⟩)  ) (fun o V' hq => ?_)
                    obtain ⟨r377, rfl, rfl, b378, q379⟩ := hq
                    refine .inr ⟨_, rfl, ?_⟩
                    rcases q379 with ⟨rfl, a380, a381, a382⟩ | rfl
                    · have _q : True := trivial
                      refine jx_vr (pc' := 96) (as := [.int (i32 (1))]) (st := []) rfl rfl rfl rfl ⟨rfl, rfl, Nat.le_of_ble_eq_true rfl⟩ rfl rfl (c_need (dd := d) (hd := by omega) (hW := hW359) (g := 1) (ln := ln) (e_ln := show G354 9 = ln from ((hF360.1 9 rfl).trans ((hF243.1 9 rfl).trans ((hF228.1 9 rfl).trans (e_ln))))) (le := le) (e_le := show A355 4 (ln).toNat = le from (congrFun ((hF360.2 4 rfl).trans ((hF243.2 4 rfl).trans (hF228.2 4 rfl))) _).trans (e_le)) (at0 := at2_356) (e_at0 := show G354 10 = at2_356 from (e361)) (fk := fk2_358) (e_fk := show G354 16 = fk2_358 from (e363)) (tk0 := tk2_357) (e_tk0 := show G354 11 = tk2_357 from (e362))  (h_g := ⟨(by decide), (by decide)⟩)  (p_0 := by omega)) (fun o V' hq => ?_)
                      obtain ⟨G383, A384, at2_385, tk2_386, fk2_387, rfl, rfl, hW388, hF389, e390, e391, e392, p393, p394, q395⟩ := hq
                      have hF396 := Fr_tr hF367 hF389 (Fr_sub (by decide)) (Fr_sub (by decide))
                      have bat2_385 : (0 : Int) ≤ at2_385 ∧ at2_385 ≤ 3002 := e390 ▸ hW388.1 10
                      have ztk2_386 := tz_b tk2_386
                      have btk2_386 : (0 : Int) ≤ tk2_386 ∧ tk2_386 ≤ 5 := e391 ▸ hW388.1 11
                      have bfk2_387 : (0 : Int) ≤ fk2_387 ∧ fk2_387 ≤ 6 := e392 ▸ hW388.1 16
                      refine .inl ⟨rfl, ?_⟩
                      rcases q395 with ⟨a397, a398, a399, a400⟩ | ⟨a401, a402, a403, a404⟩
                      · have _q : True := trivial
                        refine jx_go (tg := 109) rfl rfl ?_
                        refine jx_ld (pc' := 110) (l' := L261) (st' := [.ref 66]) rfl (jl_aloadn gL261_0) ?_
                        refine jx_vr (pc' := 113) (as := []) (st := []) rfl rfl rfl rfl ⟨rfl, rfl, Nat.le_of_ble_eq_true rfl⟩ rfl rfl (c_bad (dd := d) (hd := by omega) (hW := hW388)  (fk := fk2_387) (e_fk := show G383 16 = fk2_387 from (e392))    ) (fun o V' hq => ?_)
                        obtain ⟨r405, rfl, rfl, b406, q407⟩ := hq
                        refine .inr ⟨_, rfl, ?_⟩
                        rcases q407 with ⟨rfl, a408⟩ | ⟨rfl, a409⟩
                        · have _q : True := trivial
                          refine jx_if_eq (pc' := 116) (tg := 117) rfl rfl rfl (by decide) (by decide) (fun h410 => ?_) (fun h410 => ?_)
                          · have _q := h410
                            exact absurd h410 (by omega)
                          · have _q := h410
                            refine jx_rt (v := none) rfl rfl rfl rfl rfl rfl ?_
                            exact ⟨_, _, at2_385, fk2_387, sy, na, rfl, rfl, hW388, hF396, (e390), (e392), ((hF389.1 19 rfl).trans ((hF360.1 19 rfl).trans ((hF243.1 19 rfl).trans ((hF228.1 19 rfl).trans (e_sy))))), ((hF389.1 28 rfl).trans ((hF360.1 28 rfl).trans ((hF243.1 28 rfl).trans ((hF228.1 28 rfl).trans (e_na))))), by omega, by omega, by omega, by omega, by first | exact Or.inl (by omega) | exact Or.inr ((⟨by omega, by omega⟩))⟩
                        · have _q : True := trivial
                          exfalso
                          omega
                      · have _q : True := trivial
                        exfalso
                        omega
                    · have _q : True := trivial
                      refine jx_vr (pc' := 96) (as := [.int (i32 (0))]) (st := []) rfl rfl rfl rfl ⟨rfl, rfl, Nat.le_of_ble_eq_true rfl⟩ rfl rfl (c_need (dd := d) (hd := by omega) (hW := hW359) (g := 0) (ln := ln) (e_ln := show G354 9 = ln from ((hF360.1 9 rfl).trans ((hF243.1 9 rfl).trans ((hF228.1 9 rfl).trans (e_ln))))) (le := le) (e_le := show A355 4 (ln).toNat = le from (congrFun ((hF360.2 4 rfl).trans ((hF243.2 4 rfl).trans (hF228.2 4 rfl))) _).trans (e_le)) (at0 := at2_356) (e_at0 := show G354 10 = at2_356 from (e361)) (fk := fk2_358) (e_fk := show G354 16 = fk2_358 from (e363)) (tk0 := tk2_357) (e_tk0 := show G354 11 = tk2_357 from (e362))  (h_g := ⟨(by decide), (by decide)⟩)  (p_0 := by omega)) (fun o V' hq => ?_)
                      obtain ⟨G411, A412, at2_413, tk2_414, fk2_415, rfl, rfl, hW416, hF417, e418, e419, e420, p421, p422, q423⟩ := hq
                      have hF424 := Fr_tr hF367 hF417 (Fr_sub (by decide)) (Fr_sub (by decide))
                      have bat2_413 : (0 : Int) ≤ at2_413 ∧ at2_413 ≤ 3002 := e418 ▸ hW416.1 10
                      have ztk2_414 := tz_b tk2_414
                      have btk2_414 : (0 : Int) ≤ tk2_414 ∧ tk2_414 ≤ 5 := e419 ▸ hW416.1 11
                      have bfk2_415 : (0 : Int) ≤ fk2_415 ∧ fk2_415 ≤ 6 := e420 ▸ hW416.1 16
                      refine .inl ⟨rfl, ?_⟩
                      rcases q423 with ⟨a425, a426, a427, a428⟩ | ⟨a429, a430, a431, a432⟩
                      · have _q : True := trivial
                        refine jx_go (tg := 109) rfl rfl ?_
                        refine jx_ld (pc' := 110) (l' := L261) (st' := [.ref 66]) rfl (jl_aloadn gL261_0) ?_
                        refine jx_vr (pc' := 113) (as := []) (st := []) rfl rfl rfl rfl ⟨rfl, rfl, Nat.le_of_ble_eq_true rfl⟩ rfl rfl (c_bad (dd := d) (hd := by omega) (hW := hW416)  (fk := fk2_415) (e_fk := show G411 16 = fk2_415 from (e420))    ) (fun o V' hq => ?_)
                        obtain ⟨r433, rfl, rfl, b434, q435⟩ := hq
                        refine .inr ⟨_, rfl, ?_⟩
                        rcases q435 with ⟨rfl, a436⟩ | ⟨rfl, a437⟩
                        · have _q : True := trivial
                          refine jx_if_eq (pc' := 116) (tg := 117) rfl rfl rfl (by decide) (by decide) (fun h438 => ?_) (fun h438 => ?_)
                          · have _q := h438
                            exact absurd h438 (by omega)
                          · have _q := h438
                            refine jx_rt (v := none) rfl rfl rfl rfl rfl rfl ?_
                            exact ⟨_, _, at2_413, fk2_415, sy, na, rfl, rfl, hW416, hF424, (e418), (e420), ((hF417.1 19 rfl).trans ((hF360.1 19 rfl).trans ((hF243.1 19 rfl).trans ((hF228.1 19 rfl).trans (e_sy))))), ((hF417.1 28 rfl).trans ((hF360.1 28 rfl).trans ((hF243.1 28 rfl).trans ((hF228.1 28 rfl).trans (e_na))))), by omega, by omega, by omega, by omega, by first | exact Or.inl (by omega) | exact Or.inr ((⟨by omega, by omega⟩))⟩
                        · have _q : True := trivial
                          exfalso
                          omega
                      · have _q : True := trivial
                        exfalso
                        omega
                  · have _q : True := trivial
                    exfalso
                    omega
              · have _q : True := trivial
                refine jx_ld (pc' := 76) (l' := jSto1 L222 3 (.int (i32 (r238)))) (st' := []) rfl rfl ?_
                obtain ⟨L439, eL439⟩ : ∃ q, q = jSto1 L222 3 (.int (i32 (r238))) := ⟨_, rfl⟩
                rw [← eL439]
                have gL439_0 : jGet L439 0 = some (.ref 66) := eL439 ▸ jg_ne (by decide) gL222_0 rfl
                have gL439_1 : jGet L439 1 = some (.int (i32 (fr))) := eL439 ▸ jg_ne (by decide) gL222_1 rfl
                have gL439_2 : jGet L439 2 = some (.int (i32 (7))) := eL439 ▸ jg_ne (by decide) gL222_2 rfl
                have gL439_3 : jGet L439 3 = some (.int (i32 (r238))) := eL439 ▸ jg_eq
                refine jx_ld (pc' := 77) (l' := L439) (st' := [.ref 66]) rfl (jl_aloadn gL439_0) ?_
                refine jx_ld (pc' := 78) (l' := L439) (st' := [.ref 66, .ref 66]) rfl (jl_aloadn gL439_0) ?_
                refine jx_ar (pc' := 80) (st' := [.int (i32 (93)), .ref 66, .ref 66]) rfl rfl rfl rfl ?_
                have b440 : (-2147483648 : Int) ≤ G236 13 ∧ G236 13 ≤ 2147483647 := hW242.1 13
                refine jx_vr (pc' := 83) (as := [.int (i32 (93))]) (st := [.ref 66]) rfl rfl rfl rfl ⟨rfl, rfl, Nat.le_of_ble_eq_true rfl⟩ rfl rfl (c_is (dd := d) (hd := by omega) (hW := hW242) (k := 93) (tk := tk2_240) (e_tk := show G236 11 = tk2_240 from (e246)) (tn := G236 13) (e_tn := show G236 13 = G236 13 from rfl)  (h_k := ⟨(by decide), (by decide)⟩)  ) (fun o V' hq => ?_)
                obtain ⟨r441, rfl, rfl, b442, q443⟩ := hq
                refine .inr ⟨_, rfl, ?_⟩
                rcases q443 with ⟨rfl, a444, a445, a446⟩ | rfl
                · have _q : True := trivial
                  refine jx_vr (pc' := 86) (as := [.int (i32 (1))]) (st := []) rfl rfl rfl rfl ⟨rfl, rfl, Nat.le_of_ble_eq_true rfl⟩ rfl rfl (c_need (dd := d) (hd := by omega) (hW := hW242) (g := 1) (ln := ln) (e_ln := show G236 9 = ln from ((hF243.1 9 rfl).trans ((hF228.1 9 rfl).trans (e_ln)))) (le := le) (e_le := show A237 4 (ln).toNat = le from (congrFun ((hF243.2 4 rfl).trans (hF228.2 4 rfl)) _).trans (e_le)) (at0 := at2_239) (e_at0 := show G236 10 = at2_239 from (e245)) (fk := fk2_241) (e_fk := show G236 16 = fk2_241 from (e247)) (tk0 := tk2_240) (e_tk0 := show G236 11 = tk2_240 from (e246))  (h_g := ⟨(by decide), (by decide)⟩)  (p_0 := by omega)) (fun o V' hq => ?_)
                  obtain ⟨G447, A448, at2_449, tk2_450, fk2_451, rfl, rfl, hW452, hF453, e454, e455, e456, p457, p458, q459⟩ := hq
                  have hF460 := Fr_tr hF251 hF453 (Fr_sub (by decide)) (Fr_sub (by decide))
                  have bat2_449 : (0 : Int) ≤ at2_449 ∧ at2_449 ≤ 3002 := e454 ▸ hW452.1 10
                  have ztk2_450 := tz_b tk2_450
                  have btk2_450 : (0 : Int) ≤ tk2_450 ∧ tk2_450 ≤ 5 := e455 ▸ hW452.1 11
                  have bfk2_451 : (0 : Int) ≤ fk2_451 ∧ fk2_451 ≤ 6 := e456 ▸ hW452.1 16
                  refine .inl ⟨rfl, ?_⟩
                  rcases q459 with ⟨a461, a462, a463, a464⟩ | ⟨a465, a466, a467, a468⟩
                  · have _q : True := trivial
                    refine jx_ld (pc' := 87) (l' := L439) (st' := [.ref 66]) rfl (jl_aloadn gL439_0) ?_
                    refine jx_ld (pc' := 88) (l' := L439) (st' := [.ref 66, .ref 66]) rfl (jl_aloadn gL439_0) ?_
                    refine jx_ar (pc' := 90) (st' := [.int (i32 (9)), .ref 66, .ref 66]) rfl rfl rfl rfl ?_
                    have b469 : (-2147483648 : Int) ≤ G447 13 ∧ G447 13 ≤ 2147483647 := hW452.1 13
                    refine jx_vr (pc' := 93) (as := [.int (i32 (9))]) (st := [.ref 66]) rfl rfl rfl rfl ⟨rfl, rfl, Nat.le_of_ble_eq_true rfl⟩ rfl rfl (c_isKey (dd := d) (hd := by omega) (hW := hW452) (k := 9) (tk := tk2_450) (e_tk := show G447 11 = tk2_450 from (e455)) (tn := G447 13) (e_tn := show G447 13 = G447 13 from rfl)  (h_k := ⟨(by decide), (by decide)⟩)  ) (fun o V' hq => ?_)
                    obtain ⟨r470, rfl, rfl, b471, q472⟩ := hq
                    refine .inr ⟨_, rfl, ?_⟩
                    rcases q472 with ⟨rfl, a473, a474, a475⟩ | rfl
                    · have _q : True := trivial
                      refine jx_vr (pc' := 96) (as := [.int (i32 (1))]) (st := []) rfl rfl rfl rfl ⟨rfl, rfl, Nat.le_of_ble_eq_true rfl⟩ rfl rfl (c_need (dd := d) (hd := by omega) (hW := hW452) (g := 1) (ln := ln) (e_ln := show G447 9 = ln from ((hF453.1 9 rfl).trans ((hF243.1 9 rfl).trans ((hF228.1 9 rfl).trans (e_ln))))) (le := le) (e_le := show A448 4 (ln).toNat = le from (congrFun ((hF453.2 4 rfl).trans ((hF243.2 4 rfl).trans (hF228.2 4 rfl))) _).trans (e_le)) (at0 := at2_449) (e_at0 := show G447 10 = at2_449 from (e454)) (fk := fk2_451) (e_fk := show G447 16 = fk2_451 from (e456)) (tk0 := tk2_450) (e_tk0 := show G447 11 = tk2_450 from (e455))  (h_g := ⟨(by decide), (by decide)⟩)  (p_0 := by omega)) (fun o V' hq => ?_)
                      obtain ⟨G476, A477, at2_478, tk2_479, fk2_480, rfl, rfl, hW481, hF482, e483, e484, e485, p486, p487, q488⟩ := hq
                      have hF489 := Fr_tr hF460 hF482 (Fr_sub (by decide)) (Fr_sub (by decide))
                      have bat2_478 : (0 : Int) ≤ at2_478 ∧ at2_478 ≤ 3002 := e483 ▸ hW481.1 10
                      have ztk2_479 := tz_b tk2_479
                      have btk2_479 : (0 : Int) ≤ tk2_479 ∧ tk2_479 ≤ 5 := e484 ▸ hW481.1 11
                      have bfk2_480 : (0 : Int) ≤ fk2_480 ∧ fk2_480 ≤ 6 := e485 ▸ hW481.1 16
                      refine .inl ⟨rfl, ?_⟩
                      rcases q488 with ⟨a490, a491, a492, a493⟩ | ⟨a494, a495, a496, a497⟩
                      · have _q : True := trivial
                        refine jx_go (tg := 109) rfl rfl ?_
                        refine jx_ld (pc' := 110) (l' := L439) (st' := [.ref 66]) rfl (jl_aloadn gL439_0) ?_
                        refine jx_vr (pc' := 113) (as := []) (st := []) rfl rfl rfl rfl ⟨rfl, rfl, Nat.le_of_ble_eq_true rfl⟩ rfl rfl (c_bad (dd := d) (hd := by omega) (hW := hW481)  (fk := fk2_480) (e_fk := show G476 16 = fk2_480 from (e485))    ) (fun o V' hq => ?_)
                        obtain ⟨r498, rfl, rfl, b499, q500⟩ := hq
                        refine .inr ⟨_, rfl, ?_⟩
                        rcases q500 with ⟨rfl, a501⟩ | ⟨rfl, a502⟩
                        · have _q : True := trivial
                          refine jx_if_eq (pc' := 116) (tg := 117) rfl rfl rfl (by decide) (by decide) (fun h503 => ?_) (fun h503 => ?_)
                          · have _q := h503
                            exact absurd h503 (by omega)
                          · have _q := h503
                            refine jx_rt (v := none) rfl rfl rfl rfl rfl rfl ?_
                            exact ⟨_, _, at2_478, fk2_480, sy, na, rfl, rfl, hW481, hF489, (e483), (e485), ((hF482.1 19 rfl).trans ((hF453.1 19 rfl).trans ((hF243.1 19 rfl).trans ((hF228.1 19 rfl).trans (e_sy))))), ((hF482.1 28 rfl).trans ((hF453.1 28 rfl).trans ((hF243.1 28 rfl).trans ((hF228.1 28 rfl).trans (e_na))))), by omega, by omega, by omega, by omega, by first | exact Or.inl (by omega) | exact Or.inr ((⟨by omega, by omega⟩))⟩
                        · have _q : True := trivial
                          exfalso
                          omega
                      · have _q : True := trivial
                        exfalso
                        omega
                    · have _q : True := trivial
                      refine jx_vr (pc' := 96) (as := [.int (i32 (0))]) (st := []) rfl rfl rfl rfl ⟨rfl, rfl, Nat.le_of_ble_eq_true rfl⟩ rfl rfl (c_need (dd := d) (hd := by omega) (hW := hW452) (g := 0) (ln := ln) (e_ln := show G447 9 = ln from ((hF453.1 9 rfl).trans ((hF243.1 9 rfl).trans ((hF228.1 9 rfl).trans (e_ln))))) (le := le) (e_le := show A448 4 (ln).toNat = le from (congrFun ((hF453.2 4 rfl).trans ((hF243.2 4 rfl).trans (hF228.2 4 rfl))) _).trans (e_le)) (at0 := at2_449) (e_at0 := show G447 10 = at2_449 from (e454)) (fk := fk2_451) (e_fk := show G447 16 = fk2_451 from (e456)) (tk0 := tk2_450) (e_tk0 := show G447 11 = tk2_450 from (e455))  (h_g := ⟨(by decide), (by decide)⟩)  (p_0 := by omega)) (fun o V' hq => ?_)
                      obtain ⟨G504, A505, at2_506, tk2_507, fk2_508, rfl, rfl, hW509, hF510, e511, e512, e513, p514, p515, q516⟩ := hq
                      have hF517 := Fr_tr hF460 hF510 (Fr_sub (by decide)) (Fr_sub (by decide))
                      have bat2_506 : (0 : Int) ≤ at2_506 ∧ at2_506 ≤ 3002 := e511 ▸ hW509.1 10
                      have ztk2_507 := tz_b tk2_507
                      have btk2_507 : (0 : Int) ≤ tk2_507 ∧ tk2_507 ≤ 5 := e512 ▸ hW509.1 11
                      have bfk2_508 : (0 : Int) ≤ fk2_508 ∧ fk2_508 ≤ 6 := e513 ▸ hW509.1 16
                      refine .inl ⟨rfl, ?_⟩
                      rcases q516 with ⟨a518, a519, a520, a521⟩ | ⟨a522, a523, a524, a525⟩
                      · have _q : True := trivial
                        refine jx_go (tg := 109) rfl rfl ?_
                        refine jx_ld (pc' := 110) (l' := L439) (st' := [.ref 66]) rfl (jl_aloadn gL439_0) ?_
                        refine jx_vr (pc' := 113) (as := []) (st := []) rfl rfl rfl rfl ⟨rfl, rfl, Nat.le_of_ble_eq_true rfl⟩ rfl rfl (c_bad (dd := d) (hd := by omega) (hW := hW509)  (fk := fk2_508) (e_fk := show G504 16 = fk2_508 from (e513))    ) (fun o V' hq => ?_)
                        obtain ⟨r526, rfl, rfl, b527, q528⟩ := hq
                        refine .inr ⟨_, rfl, ?_⟩
                        rcases q528 with ⟨rfl, a529⟩ | ⟨rfl, a530⟩
                        · have _q : True := trivial
                          refine jx_if_eq (pc' := 116) (tg := 117) rfl rfl rfl (by decide) (by decide) (fun h531 => ?_) (fun h531 => ?_)
                          · have _q := h531
                            exact absurd h531 (by omega)
                          · have _q := h531
                            refine jx_rt (v := none) rfl rfl rfl rfl rfl rfl ?_
                            exact ⟨_, _, at2_506, fk2_508, sy, na, rfl, rfl, hW509, hF517, (e511), (e513), ((hF510.1 19 rfl).trans ((hF453.1 19 rfl).trans ((hF243.1 19 rfl).trans ((hF228.1 19 rfl).trans (e_sy))))), ((hF510.1 28 rfl).trans ((hF453.1 28 rfl).trans ((hF243.1 28 rfl).trans ((hF228.1 28 rfl).trans (e_na))))), by omega, by omega, by omega, by omega, by first | exact Or.inl (by omega) | exact Or.inr ((⟨by omega, by omega⟩))⟩
                        · have _q : True := trivial
                          exfalso
                          omega
                      · have _q : True := trivial
                        exfalso
                        omega
                  · have _q : True := trivial
                    refine jx_ld (pc' := 87) (l' := L439) (st' := [.ref 66]) rfl (jl_aloadn gL439_0) ?_
                    refine jx_ld (pc' := 88) (l' := L439) (st' := [.ref 66, .ref 66]) rfl (jl_aloadn gL439_0) ?_
                    refine jx_ar (pc' := 90) (st' := [.int (i32 (9)), .ref 66, .ref 66]) rfl rfl rfl rfl ?_
                    have b532 : (-2147483648 : Int) ≤ G447 13 ∧ G447 13 ≤ 2147483647 := hW452.1 13
                    refine jx_vr (pc' := 93) (as := [.int (i32 (9))]) (st := [.ref 66]) rfl rfl rfl rfl ⟨rfl, rfl, Nat.le_of_ble_eq_true rfl⟩ rfl rfl (c_isKey (dd := d) (hd := by omega) (hW := hW452) (k := 9) (tk := tk2_450) (e_tk := show G447 11 = tk2_450 from (e455)) (tn := G447 13) (e_tn := show G447 13 = G447 13 from rfl)  (h_k := ⟨(by decide), (by decide)⟩)  ) (fun o V' hq => ?_)
                    obtain ⟨r533, rfl, rfl, b534, q535⟩ := hq
                    refine .inr ⟨_, rfl, ?_⟩
                    rcases q535 with ⟨rfl, a536, a537, a538⟩ | rfl
                    · have _q : True := trivial
                      refine jx_vr (pc' := 96) (as := [.int (i32 (1))]) (st := []) rfl rfl rfl rfl ⟨rfl, rfl, Nat.le_of_ble_eq_true rfl⟩ rfl rfl (c_need (dd := d) (hd := by omega) (hW := hW452) (g := 1) (ln := ln) (e_ln := show G447 9 = ln from ((hF453.1 9 rfl).trans ((hF243.1 9 rfl).trans ((hF228.1 9 rfl).trans (e_ln))))) (le := le) (e_le := show A448 4 (ln).toNat = le from (congrFun ((hF453.2 4 rfl).trans ((hF243.2 4 rfl).trans (hF228.2 4 rfl))) _).trans (e_le)) (at0 := at2_449) (e_at0 := show G447 10 = at2_449 from (e454)) (fk := fk2_451) (e_fk := show G447 16 = fk2_451 from (e456)) (tk0 := tk2_450) (e_tk0 := show G447 11 = tk2_450 from (e455))  (h_g := ⟨(by decide), (by decide)⟩)  (p_0 := by omega)) (fun o V' hq => ?_)
                      obtain ⟨G539, A540, at2_541, tk2_542, fk2_543, rfl, rfl, hW544, hF545, e546, e547, e548, p549, p550, q551⟩ := hq
                      have hF552 := Fr_tr hF460 hF545 (Fr_sub (by decide)) (Fr_sub (by decide))
                      have bat2_541 : (0 : Int) ≤ at2_541 ∧ at2_541 ≤ 3002 := e546 ▸ hW544.1 10
                      have ztk2_542 := tz_b tk2_542
                      have btk2_542 : (0 : Int) ≤ tk2_542 ∧ tk2_542 ≤ 5 := e547 ▸ hW544.1 11
                      have bfk2_543 : (0 : Int) ≤ fk2_543 ∧ fk2_543 ≤ 6 := e548 ▸ hW544.1 16
                      refine .inl ⟨rfl, ?_⟩
                      rcases q551 with ⟨a553, a554, a555, a556⟩ | ⟨a557, a558, a559, a560⟩
                      · have _q : True := trivial
                        refine jx_go (tg := 109) rfl rfl ?_
                        refine jx_ld (pc' := 110) (l' := L439) (st' := [.ref 66]) rfl (jl_aloadn gL439_0) ?_
                        refine jx_vr (pc' := 113) (as := []) (st := []) rfl rfl rfl rfl ⟨rfl, rfl, Nat.le_of_ble_eq_true rfl⟩ rfl rfl (c_bad (dd := d) (hd := by omega) (hW := hW544)  (fk := fk2_543) (e_fk := show G539 16 = fk2_543 from (e548))    ) (fun o V' hq => ?_)
                        obtain ⟨r561, rfl, rfl, b562, q563⟩ := hq
                        refine .inr ⟨_, rfl, ?_⟩
                        rcases q563 with ⟨rfl, a564⟩ | ⟨rfl, a565⟩
                        · have _q : True := trivial
                          refine jx_if_eq (pc' := 116) (tg := 117) rfl rfl rfl (by decide) (by decide) (fun h566 => ?_) (fun h566 => ?_)
                          · have _q := h566
                            exact absurd h566 (by omega)
                          · have _q := h566
                            refine jx_rt (v := none) rfl rfl rfl rfl rfl rfl ?_
                            exact ⟨_, _, at2_541, fk2_543, sy, na, rfl, rfl, hW544, hF552, (e546), (e548), ((hF545.1 19 rfl).trans ((hF453.1 19 rfl).trans ((hF243.1 19 rfl).trans ((hF228.1 19 rfl).trans (e_sy))))), ((hF545.1 28 rfl).trans ((hF453.1 28 rfl).trans ((hF243.1 28 rfl).trans ((hF228.1 28 rfl).trans (e_na))))), by omega, by omega, by omega, by omega, by first | exact Or.inl (by omega) | exact Or.inr ((⟨by omega, by omega⟩))⟩
                        · have _q : True := trivial
                          exfalso
                          omega
                      · have _q : True := trivial
                        refine jx_go (tg := 109) rfl rfl ?_
                        exact at_109 L439 G539 A540 (7) (r238) (at2_541) (tk2_542) (fk2_543) gL439_0 gL439_1 gL439_2 gL439_3 hW544 hF552 ((e546)) ((e547)) ((e548)) (((hF545.1 9 rfl).trans ((hF453.1 9 rfl).trans ((hF243.1 9 rfl).trans ((hF228.1 9 rfl).trans (e_ln)))))) (((hF545.1 19 rfl).trans ((hF453.1 19 rfl).trans ((hF243.1 19 rfl).trans ((hF228.1 19 rfl).trans (e_sy)))))) (((hF545.1 28 rfl).trans ((hF453.1 28 rfl).trans ((hF243.1 28 rfl).trans ((hF228.1 28 rfl).trans (e_na)))))) (by omega) (by omega) (by omega) (by omega) (by omega) (by omega)
                    · have _q : True := trivial
                      refine jx_vr (pc' := 96) (as := [.int (i32 (0))]) (st := []) rfl rfl rfl rfl ⟨rfl, rfl, Nat.le_of_ble_eq_true rfl⟩ rfl rfl (c_need (dd := d) (hd := by omega) (hW := hW452) (g := 0) (ln := ln) (e_ln := show G447 9 = ln from ((hF453.1 9 rfl).trans ((hF243.1 9 rfl).trans ((hF228.1 9 rfl).trans (e_ln))))) (le := le) (e_le := show A448 4 (ln).toNat = le from (congrFun ((hF453.2 4 rfl).trans ((hF243.2 4 rfl).trans (hF228.2 4 rfl))) _).trans (e_le)) (at0 := at2_449) (e_at0 := show G447 10 = at2_449 from (e454)) (fk := fk2_451) (e_fk := show G447 16 = fk2_451 from (e456)) (tk0 := tk2_450) (e_tk0 := show G447 11 = tk2_450 from (e455))  (h_g := ⟨(by decide), (by decide)⟩)  (p_0 := by omega)) (fun o V' hq => ?_)
                      obtain ⟨G567, A568, at2_569, tk2_570, fk2_571, rfl, rfl, hW572, hF573, e574, e575, e576, p577, p578, q579⟩ := hq
                      have hF580 := Fr_tr hF460 hF573 (Fr_sub (by decide)) (Fr_sub (by decide))
                      have bat2_569 : (0 : Int) ≤ at2_569 ∧ at2_569 ≤ 3002 := e574 ▸ hW572.1 10
                      have ztk2_570 := tz_b tk2_570
                      have btk2_570 : (0 : Int) ≤ tk2_570 ∧ tk2_570 ≤ 5 := e575 ▸ hW572.1 11
                      have bfk2_571 : (0 : Int) ≤ fk2_571 ∧ fk2_571 ≤ 6 := e576 ▸ hW572.1 16
                      refine .inl ⟨rfl, ?_⟩
                      rcases q579 with ⟨a581, a582, a583, a584⟩ | ⟨a585, a586, a587, a588⟩
                      · have _q : True := trivial
                        refine jx_go (tg := 109) rfl rfl ?_
                        refine jx_ld (pc' := 110) (l' := L439) (st' := [.ref 66]) rfl (jl_aloadn gL439_0) ?_
                        refine jx_vr (pc' := 113) (as := []) (st := []) rfl rfl rfl rfl ⟨rfl, rfl, Nat.le_of_ble_eq_true rfl⟩ rfl rfl (c_bad (dd := d) (hd := by omega) (hW := hW572)  (fk := fk2_571) (e_fk := show G567 16 = fk2_571 from (e576))    ) (fun o V' hq => ?_)
                        obtain ⟨r589, rfl, rfl, b590, q591⟩ := hq
                        refine .inr ⟨_, rfl, ?_⟩
                        rcases q591 with ⟨rfl, a592⟩ | ⟨rfl, a593⟩
                        · have _q : True := trivial
                          refine jx_if_eq (pc' := 116) (tg := 117) rfl rfl rfl (by decide) (by decide) (fun h594 => ?_) (fun h594 => ?_)
                          · have _q := h594
                            exact absurd h594 (by omega)
                          · have _q := h594
                            refine jx_rt (v := none) rfl rfl rfl rfl rfl rfl ?_
                            exact ⟨_, _, at2_569, fk2_571, sy, na, rfl, rfl, hW572, hF580, (e574), (e576), ((hF573.1 19 rfl).trans ((hF453.1 19 rfl).trans ((hF243.1 19 rfl).trans ((hF228.1 19 rfl).trans (e_sy))))), ((hF573.1 28 rfl).trans ((hF453.1 28 rfl).trans ((hF243.1 28 rfl).trans ((hF228.1 28 rfl).trans (e_na))))), by omega, by omega, by omega, by omega, by first | exact Or.inl (by omega) | exact Or.inr ((⟨by omega, by omega⟩))⟩
                        · have _q : True := trivial
                          exfalso
                          omega
                      · have _q : True := trivial
                        exfalso
                        omega
                · have _q : True := trivial
                  refine jx_vr (pc' := 86) (as := [.int (i32 (0))]) (st := []) rfl rfl rfl rfl ⟨rfl, rfl, Nat.le_of_ble_eq_true rfl⟩ rfl rfl (c_need (dd := d) (hd := by omega) (hW := hW242) (g := 0) (ln := ln) (e_ln := show G236 9 = ln from ((hF243.1 9 rfl).trans ((hF228.1 9 rfl).trans (e_ln)))) (le := le) (e_le := show A237 4 (ln).toNat = le from (congrFun ((hF243.2 4 rfl).trans (hF228.2 4 rfl)) _).trans (e_le)) (at0 := at2_239) (e_at0 := show G236 10 = at2_239 from (e245)) (fk := fk2_241) (e_fk := show G236 16 = fk2_241 from (e247)) (tk0 := tk2_240) (e_tk0 := show G236 11 = tk2_240 from (e246))  (h_g := ⟨(by decide), (by decide)⟩)  (p_0 := by omega)) (fun o V' hq => ?_)
                  obtain ⟨G595, A596, at2_597, tk2_598, fk2_599, rfl, rfl, hW600, hF601, e602, e603, e604, p605, p606, q607⟩ := hq
                  have hF608 := Fr_tr hF251 hF601 (Fr_sub (by decide)) (Fr_sub (by decide))
                  have bat2_597 : (0 : Int) ≤ at2_597 ∧ at2_597 ≤ 3002 := e602 ▸ hW600.1 10
                  have ztk2_598 := tz_b tk2_598
                  have btk2_598 : (0 : Int) ≤ tk2_598 ∧ tk2_598 ≤ 5 := e603 ▸ hW600.1 11
                  have bfk2_599 : (0 : Int) ≤ fk2_599 ∧ fk2_599 ≤ 6 := e604 ▸ hW600.1 16
                  refine .inl ⟨rfl, ?_⟩
                  rcases q607 with ⟨a609, a610, a611, a612⟩ | ⟨a613, a614, a615, a616⟩
                  · have _q : True := trivial
                    refine jx_ld (pc' := 87) (l' := L439) (st' := [.ref 66]) rfl (jl_aloadn gL439_0) ?_
                    refine jx_ld (pc' := 88) (l' := L439) (st' := [.ref 66, .ref 66]) rfl (jl_aloadn gL439_0) ?_
                    refine jx_ar (pc' := 90) (st' := [.int (i32 (9)), .ref 66, .ref 66]) rfl rfl rfl rfl ?_
                    have b617 : (-2147483648 : Int) ≤ G595 13 ∧ G595 13 ≤ 2147483647 := hW600.1 13
                    refine jx_vr (pc' := 93) (as := [.int (i32 (9))]) (st := [.ref 66]) rfl rfl rfl rfl ⟨rfl, rfl, Nat.le_of_ble_eq_true rfl⟩ rfl rfl (c_isKey (dd := d) (hd := by omega) (hW := hW600) (k := 9) (tk := tk2_598) (e_tk := show G595 11 = tk2_598 from (e603)) (tn := G595 13) (e_tn := show G595 13 = G595 13 from rfl)  (h_k := ⟨(by decide), (by decide)⟩)  ) (fun o V' hq => ?_)
                    obtain ⟨r618, rfl, rfl, b619, q620⟩ := hq
                    refine .inr ⟨_, rfl, ?_⟩
                    rcases q620 with ⟨rfl, a621, a622, a623⟩ | rfl
                    · have _q : True := trivial
                      refine jx_vr (pc' := 96) (as := [.int (i32 (1))]) (st := []) rfl rfl rfl rfl ⟨rfl, rfl, Nat.le_of_ble_eq_true rfl⟩ rfl rfl (c_need (dd := d) (hd := by omega) (hW := hW600) (g := 1) (ln := ln) (e_ln := show G595 9 = ln from ((hF601.1 9 rfl).trans ((hF243.1 9 rfl).trans ((hF228.1 9 rfl).trans (e_ln))))) (le := le) (e_le := show A596 4 (ln).toNat = le from (congrFun ((hF601.2 4 rfl).trans ((hF243.2 4 rfl).trans (hF228.2 4 rfl))) _).trans (e_le)) (at0 := at2_597) (e_at0 := show G595 10 = at2_597 from (e602)) (fk := fk2_599) (e_fk := show G595 16 = fk2_599 from (e604)) (tk0 := tk2_598) (e_tk0 := show G595 11 = tk2_598 from (e603))  (h_g := ⟨(by decide), (by decide)⟩)  (p_0 := by omega)) (fun o V' hq => ?_)
                      obtain ⟨G624, A625, at2_626, tk2_627, fk2_628, rfl, rfl, hW629, hF630, e631, e632, e633, p634, p635, q636⟩ := hq
                      have hF637 := Fr_tr hF608 hF630 (Fr_sub (by decide)) (Fr_sub (by decide))
                      have bat2_626 : (0 : Int) ≤ at2_626 ∧ at2_626 ≤ 3002 := e631 ▸ hW629.1 10
                      have ztk2_627 := tz_b tk2_627
                      have btk2_627 : (0 : Int) ≤ tk2_627 ∧ tk2_627 ≤ 5 := e632 ▸ hW629.1 11
                      have bfk2_628 : (0 : Int) ≤ fk2_628 ∧ fk2_628 ≤ 6 := e633 ▸ hW629.1 16
                      refine .inl ⟨rfl, ?_⟩
                      rcases q636 with ⟨a638, a639, a640, a641⟩ | ⟨a642, a643, a644, a645⟩
                      · have _q : True := trivial
                        refine jx_go (tg := 109) rfl rfl ?_
                        refine jx_ld (pc' := 110) (l' := L439) (st' := [.ref 66]) rfl (jl_aloadn gL439_0) ?_
                        refine jx_vr (pc' := 113) (as := []) (st := []) rfl rfl rfl rfl ⟨rfl, rfl, Nat.le_of_ble_eq_true rfl⟩ rfl rfl (c_bad (dd := d) (hd := by omega) (hW := hW629)  (fk := fk2_628) (e_fk := show G624 16 = fk2_628 from (e633))    ) (fun o V' hq => ?_)
                        obtain ⟨r646, rfl, rfl, b647, q648⟩ := hq
                        refine .inr ⟨_, rfl, ?_⟩
                        rcases q648 with ⟨rfl, a649⟩ | ⟨rfl, a650⟩
                        · have _q : True := trivial
                          refine jx_if_eq (pc' := 116) (tg := 117) rfl rfl rfl (by decide) (by decide) (fun h651 => ?_) (fun h651 => ?_)
                          · have _q := h651
                            exact absurd h651 (by omega)
                          · have _q := h651
                            refine jx_rt (v := none) rfl rfl rfl rfl rfl rfl ?_
                            exact ⟨_, _, at2_626, fk2_628, sy, na, rfl, rfl, hW629, hF637, (e631), (e633), ((hF630.1 19 rfl).trans ((hF601.1 19 rfl).trans ((hF243.1 19 rfl).trans ((hF228.1 19 rfl).trans (e_sy))))), ((hF630.1 28 rfl).trans ((hF601.1 28 rfl).trans ((hF243.1 28 rfl).trans ((hF228.1 28 rfl).trans (e_na))))), by omega, by omega, by omega, by omega, by first | exact Or.inl (by omega) | exact Or.inr ((⟨by omega, by omega⟩))⟩
                        · have _q : True := trivial
                          exfalso
                          omega
                      · have _q : True := trivial
                        exfalso
                        omega
                    · have _q : True := trivial
                      refine jx_vr (pc' := 96) (as := [.int (i32 (0))]) (st := []) rfl rfl rfl rfl ⟨rfl, rfl, Nat.le_of_ble_eq_true rfl⟩ rfl rfl (c_need (dd := d) (hd := by omega) (hW := hW600) (g := 0) (ln := ln) (e_ln := show G595 9 = ln from ((hF601.1 9 rfl).trans ((hF243.1 9 rfl).trans ((hF228.1 9 rfl).trans (e_ln))))) (le := le) (e_le := show A596 4 (ln).toNat = le from (congrFun ((hF601.2 4 rfl).trans ((hF243.2 4 rfl).trans (hF228.2 4 rfl))) _).trans (e_le)) (at0 := at2_597) (e_at0 := show G595 10 = at2_597 from (e602)) (fk := fk2_599) (e_fk := show G595 16 = fk2_599 from (e604)) (tk0 := tk2_598) (e_tk0 := show G595 11 = tk2_598 from (e603))  (h_g := ⟨(by decide), (by decide)⟩)  (p_0 := by omega)) (fun o V' hq => ?_)
                      obtain ⟨G652, A653, at2_654, tk2_655, fk2_656, rfl, rfl, hW657, hF658, e659, e660, e661, p662, p663, q664⟩ := hq
                      have hF665 := Fr_tr hF608 hF658 (Fr_sub (by decide)) (Fr_sub (by decide))
                      have bat2_654 : (0 : Int) ≤ at2_654 ∧ at2_654 ≤ 3002 := e659 ▸ hW657.1 10
                      have ztk2_655 := tz_b tk2_655
                      have btk2_655 : (0 : Int) ≤ tk2_655 ∧ tk2_655 ≤ 5 := e660 ▸ hW657.1 11
                      have bfk2_656 : (0 : Int) ≤ fk2_656 ∧ fk2_656 ≤ 6 := e661 ▸ hW657.1 16
                      refine .inl ⟨rfl, ?_⟩
                      rcases q664 with ⟨a666, a667, a668, a669⟩ | ⟨a670, a671, a672, a673⟩
                      · have _q : True := trivial
                        refine jx_go (tg := 109) rfl rfl ?_
                        refine jx_ld (pc' := 110) (l' := L439) (st' := [.ref 66]) rfl (jl_aloadn gL439_0) ?_
                        refine jx_vr (pc' := 113) (as := []) (st := []) rfl rfl rfl rfl ⟨rfl, rfl, Nat.le_of_ble_eq_true rfl⟩ rfl rfl (c_bad (dd := d) (hd := by omega) (hW := hW657)  (fk := fk2_656) (e_fk := show G652 16 = fk2_656 from (e661))    ) (fun o V' hq => ?_)
                        obtain ⟨r674, rfl, rfl, b675, q676⟩ := hq
                        refine .inr ⟨_, rfl, ?_⟩
                        rcases q676 with ⟨rfl, a677⟩ | ⟨rfl, a678⟩
                        · have _q : True := trivial
                          refine jx_if_eq (pc' := 116) (tg := 117) rfl rfl rfl (by decide) (by decide) (fun h679 => ?_) (fun h679 => ?_)
                          · have _q := h679
                            exact absurd h679 (by omega)
                          · have _q := h679
                            refine jx_rt (v := none) rfl rfl rfl rfl rfl rfl ?_
                            exact ⟨_, _, at2_654, fk2_656, sy, na, rfl, rfl, hW657, hF665, (e659), (e661), ((hF658.1 19 rfl).trans ((hF601.1 19 rfl).trans ((hF243.1 19 rfl).trans ((hF228.1 19 rfl).trans (e_sy))))), ((hF658.1 28 rfl).trans ((hF601.1 28 rfl).trans ((hF243.1 28 rfl).trans ((hF228.1 28 rfl).trans (e_na))))), by omega, by omega, by omega, by omega, by first | exact Or.inl (by omega) | exact Or.inr ((⟨by omega, by omega⟩))⟩
                        · have _q : True := trivial
                          exfalso
                          omega
                      · have _q : True := trivial
                        exfalso
                        omega
                  · have _q : True := trivial
                    exfalso
                    omega
          · have _q : True := trivial
            refine jx_if_eq (pc' := 61) (tg := 99) rfl rfl rfl (by decide) (by decide) (fun h680 => ?_) (fun h680 => ?_)
            · have _q := h680
              refine jx_ld (pc' := 100) (l' := L106) (st' := [.ref 66]) rfl (jl_aloadn gL106_0) ?_
              refine jx_ld (pc' := 101) (l' := L106) (st' := [.ref 66, .ref 66]) rfl (jl_aloadn gL106_0) ?_
              refine jx_ar (pc' := 103) (st' := [.int (i32 (9)), .ref 66, .ref 66]) rfl rfl rfl rfl ?_
              refine jx_vr (pc' := 106) (as := [.int (i32 (9))]) (st := [.ref 66]) rfl rfl rfl rfl ⟨rfl, rfl, Nat.le_of_ble_eq_true rfl⟩ rfl rfl (c_isKey (dd := d) (hd := by omega) (hW := hW) (k := 9) (tk := tk0) (e_tk := show G 11 = tk0 from (e_tk0)) (tn := G 13) (e_tn := show G 13 = G 13 from rfl)  (h_k := ⟨(by decide), (by decide)⟩)  ) (fun o V' hq => ?_)
              obtain ⟨r681, rfl, rfl, b682, q683⟩ := hq
              refine .inr ⟨_, rfl, ?_⟩
              rcases q683 with ⟨rfl, a684, a685, a686⟩ | rfl
              · have _q : True := trivial
                refine jx_vr (pc' := 109) (as := [.int (i32 (1))]) (st := []) rfl rfl rfl rfl ⟨rfl, rfl, Nat.le_of_ble_eq_true rfl⟩ rfl rfl (c_need (dd := d) (hd := by omega) (hW := hW) (g := 1) (ln := ln) (e_ln := show G 9 = ln from (e_ln)) (le := le) (e_le := show A 4 (ln).toNat = le from (e_le)) (at0 := at0) (e_at0 := show G 10 = at0 from (e_at0)) (fk := fk) (e_fk := show G 16 = fk from (e_fk)) (tk0 := tk0) (e_tk0 := show G 11 = tk0 from (e_tk0))  (h_g := ⟨(by decide), (by decide)⟩)  (p_0 := by omega)) (fun o V' hq => ?_)
                obtain ⟨G687, A688, at2_689, tk2_690, fk2_691, rfl, rfl, hW692, hF693, e694, e695, e696, p697, p698, q699⟩ := hq
                have hF700 := Fr_tr hF0 hF693 (Fr_sub (by decide)) (Fr_sub (by decide))
                have bat2_689 : (0 : Int) ≤ at2_689 ∧ at2_689 ≤ 3002 := e694 ▸ hW692.1 10
                have ztk2_690 := tz_b tk2_690
                have btk2_690 : (0 : Int) ≤ tk2_690 ∧ tk2_690 ≤ 5 := e695 ▸ hW692.1 11
                have bfk2_691 : (0 : Int) ≤ fk2_691 ∧ fk2_691 ≤ 6 := e696 ▸ hW692.1 16
                refine .inl ⟨rfl, ?_⟩
                rcases q699 with ⟨a701, a702, a703, a704⟩ | ⟨a705, a706, a707, a708⟩
                · have _q : True := trivial
                  refine jx_ld (pc' := 110) (l' := L106) (st' := [.ref 66]) rfl (jl_aloadn gL106_0) ?_
                  refine jx_vr (pc' := 113) (as := []) (st := []) rfl rfl rfl rfl ⟨rfl, rfl, Nat.le_of_ble_eq_true rfl⟩ rfl rfl (c_bad (dd := d) (hd := by omega) (hW := hW692)  (fk := fk2_691) (e_fk := show G687 16 = fk2_691 from (e696))    ) (fun o V' hq => ?_)
                  obtain ⟨r709, rfl, rfl, b710, q711⟩ := hq
                  refine .inr ⟨_, rfl, ?_⟩
                  rcases q711 with ⟨rfl, a712⟩ | ⟨rfl, a713⟩
                  · have _q : True := trivial
                    refine jx_if_eq (pc' := 116) (tg := 117) rfl rfl rfl (by decide) (by decide) (fun h714 => ?_) (fun h714 => ?_)
                    · have _q := h714
                      exact absurd h714 (by omega)
                    · have _q := h714
                      refine jx_rt (v := none) rfl rfl rfl rfl rfl rfl ?_
                      exact ⟨_, _, at2_689, fk2_691, sy, na, rfl, rfl, hW692, hF700, (e694), (e696), ((hF693.1 19 rfl).trans (e_sy)), ((hF693.1 28 rfl).trans (e_na)), by omega, by omega, by omega, by omega, by first | exact Or.inl (by omega) | exact Or.inr ((⟨by omega, by omega⟩))⟩
                  · have _q : True := trivial
                    exfalso
                    omega
                · have _q : True := trivial
                  exact at_109 L106 G687 A688 (6) (1) (at2_689) (tk2_690) (fk2_691) gL106_0 gL106_1 gL106_2 gL106_3 hW692 hF700 ((e694)) ((e695)) ((e696)) (((hF693.1 9 rfl).trans (e_ln))) (((hF693.1 19 rfl).trans (e_sy))) (((hF693.1 28 rfl).trans (e_na))) (by omega) (by omega) (by omega) (by omega) (by omega) (by omega)
              · have _q : True := trivial
                refine jx_vr (pc' := 109) (as := [.int (i32 (0))]) (st := []) rfl rfl rfl rfl ⟨rfl, rfl, Nat.le_of_ble_eq_true rfl⟩ rfl rfl (c_need (dd := d) (hd := by omega) (hW := hW) (g := 0) (ln := ln) (e_ln := show G 9 = ln from (e_ln)) (le := le) (e_le := show A 4 (ln).toNat = le from (e_le)) (at0 := at0) (e_at0 := show G 10 = at0 from (e_at0)) (fk := fk) (e_fk := show G 16 = fk from (e_fk)) (tk0 := tk0) (e_tk0 := show G 11 = tk0 from (e_tk0))  (h_g := ⟨(by decide), (by decide)⟩)  (p_0 := by omega)) (fun o V' hq => ?_)
                obtain ⟨G715, A716, at2_717, tk2_718, fk2_719, rfl, rfl, hW720, hF721, e722, e723, e724, p725, p726, q727⟩ := hq
                have hF728 := Fr_tr hF0 hF721 (Fr_sub (by decide)) (Fr_sub (by decide))
                have bat2_717 : (0 : Int) ≤ at2_717 ∧ at2_717 ≤ 3002 := e722 ▸ hW720.1 10
                have ztk2_718 := tz_b tk2_718
                have btk2_718 : (0 : Int) ≤ tk2_718 ∧ tk2_718 ≤ 5 := e723 ▸ hW720.1 11
                have bfk2_719 : (0 : Int) ≤ fk2_719 ∧ fk2_719 ≤ 6 := e724 ▸ hW720.1 16
                refine .inl ⟨rfl, ?_⟩
                rcases q727 with ⟨a729, a730, a731, a732⟩ | ⟨a733, a734, a735, a736⟩
                · have _q : True := trivial
                  refine jx_ld (pc' := 110) (l' := L106) (st' := [.ref 66]) rfl (jl_aloadn gL106_0) ?_
                  refine jx_vr (pc' := 113) (as := []) (st := []) rfl rfl rfl rfl ⟨rfl, rfl, Nat.le_of_ble_eq_true rfl⟩ rfl rfl (c_bad (dd := d) (hd := by omega) (hW := hW720)  (fk := fk2_719) (e_fk := show G715 16 = fk2_719 from (e724))    ) (fun o V' hq => ?_)
                  obtain ⟨r737, rfl, rfl, b738, q739⟩ := hq
                  refine .inr ⟨_, rfl, ?_⟩
                  rcases q739 with ⟨rfl, a740⟩ | ⟨rfl, a741⟩
                  · have _q : True := trivial
                    refine jx_if_eq (pc' := 116) (tg := 117) rfl rfl rfl (by decide) (by decide) (fun h742 => ?_) (fun h742 => ?_)
                    · have _q := h742
                      exact absurd h742 (by omega)
                    · have _q := h742
                      refine jx_rt (v := none) rfl rfl rfl rfl rfl rfl ?_
                      exact ⟨_, _, at2_717, fk2_719, sy, na, rfl, rfl, hW720, hF728, (e722), (e724), ((hF721.1 19 rfl).trans (e_sy)), ((hF721.1 28 rfl).trans (e_na)), by omega, by omega, by omega, by omega, by first | exact Or.inl (by omega) | exact Or.inr ((⟨by omega, by omega⟩))⟩
                  · have _q : True := trivial
                    exfalso
                    omega
                · have _q : True := trivial
                  exfalso
                  omega
            · have _q := h680
              exact absurd h680 (by omega)
        · have _q := h214
          exact absurd h214 (by omega)
    · have _q := h192
      exact absurd h192 (by omega)
set_option maxRecDepth 20000 in
set_option maxHeartbeats 4000000 in
theorem c_readProc {X : jX} {dd : Nat} {c0 c1 : jC} {G : Nat → Int} {A : Nat → Nat → Int} {T : jH} {ln li at0 fk nd sy na vi le op0 tk0 pc0 : Int} (hd : 8 * 18 + 81 ≤ dd) (hW : Wk G A) (e_ln : G 9 = ln) (e_li : G 3 = li) (e_at0 : G 10 = at0) (e_fk : G 16 = fk) (e_nd : G 31 = nd) (e_sy : G 19 = sy) (e_na : G 28 = na) (e_vi : G 29 = vi) (e_le : A 4 (ln).toNat = le) (e_op0 : G 15 = op0) (e_tk0 : G 11 = tk0) (e_pc0 : G 46 = pc0) (i_LT : LT G A) (p_0 : fk = 0) (p_1 : ln < li) (p_2 : at0 ≤ le) (p_3 : nd ≤ 2 * at0 - tz tk0 + 30) (p_4 : sy ≤ na + 2) (p_5 : vi ≤ sy) : wk X dd 308 [.ref 66] (rV c0 c1 G A T) (fun o V' => ∃ (G' : Nat → Int) (A' : Nat → Nat → Int) (ln2 : Int) (at2 : Int) (fk2 : Int) (nd2 : Int) (sy2 : Int) (na2 : Int) (vi2 : Int) (lf2 : Int) (pc2 : Int), V' = rV c0 c1 G' A' T ∧ o = .inl none ∧ Wk G' A' ∧ Fr [9, 10, 11, 12, 13, 14, 15, 16, 17, 18, 19, 28, 29, 31, 46] [6, 7, 8, 9, 10, 11, 12, 14, 15, 16, 17, 18, 19, 20, 21, 22, 23, 24, 28, 29, 30, 31] G A G' A' ∧ G' 9 = ln2 ∧ G' 10 = at2 ∧ G' 16 = fk2 ∧ G' 31 = nd2 ∧ G' 19 = sy2 ∧ G' 28 = na2 ∧ G' 29 = vi2 ∧ A' 3 (ln2).toNat = lf2 ∧ G' 46 = pc2 ∧ (sy2 ≤ na2 + 2) ∧ (vi2 ≤ sy2) ∧ (ln ≤ ln2) ∧ (ln2 ≤ li) ∧ (((1 ≤ fk2)) ∨ ((fk2 = 0) ∧ (ln < ln2) ∧ (at0 ≤ at2) ∧ (nd2 - nd ≤ 2 * at2 - (2 * at0 - tz tk0)) ∧ (at2 < lf2 ∨ li ≤ ln2)))) := by
  obtain ⟨d, rfl⟩ : ∃ d, dd = d + 1 := ⟨dd - 1, by omega⟩
  refine wk_of (e := jm308) rfl (Nat.le_of_ble_eq_true rfl) ?_
  show wj X d jm308 (0, [(0, .ref 66)], [], rV c0 c1 G A T) _
  have hF0 : Fr [9, 10, 11, 12, 13, 14, 15, 16, 17, 18, 19, 28, 29, 31, 46] [6, 7, 8, 9, 10, 11, 12, 14, 15, 16, 17, 18, 19, 20, 21, 22, 23, 24, 28, 29, 30, 31] G A G A := Fr_rf
  have b_ln : (0 : Int) ≤ ln ∧ ln ≤ 3000 := e_ln ▸ hW.1 9
  have b_li : (0 : Int) ≤ li ∧ li ≤ 3000 := e_li ▸ hW.1 3
  have b_at0 : (0 : Int) ≤ at0 ∧ at0 ≤ 3002 := e_at0 ▸ hW.1 10
  have b_fk : (0 : Int) ≤ fk ∧ fk ≤ 6 := e_fk ▸ hW.1 16
  have b_nd : (0 : Int) ≤ nd ∧ nd ≤ 6999 := e_nd ▸ hW.1 31
  have b_sy : (0 : Int) ≤ sy ∧ sy ≤ 202 := e_sy ▸ hW.1 19
  have b_na : (0 : Int) ≤ na ∧ na ≤ 200 := e_na ▸ hW.1 28
  have b_vi : (0 : Int) ≤ vi ∧ vi ≤ 202 := e_vi ▸ hW.1 29
  have b_le : (0 : Int) ≤ le ∧ le ≤ 3000 := e_le ▸ hW.2 4 _
  have b_op0 : (-2147483648 : Int) ≤ op0 ∧ op0 ≤ 2147483647 := e_op0 ▸ hW.1 15
  have z_tk0 := tz_f tk0
  have b_tk0 : (0 : Int) ≤ tk0 ∧ tk0 ≤ 5 := e_tk0 ▸ hW.1 11
  have b_pc0 : (0 : Int) ≤ pc0 ∧ pc0 ≤ 24 := e_pc0 ▸ hW.1 46
  have at_327p : ∀ (L : jL) (Gx : Nat → Int) (Ax : Nat → Nat → Int) (p ln1 fk1 sy1 na1 : Int), jGet L 0 = some (.ref 66) → jGet L 1 = some (.int (i32 p)) → Wk Gx Ax → Fr [9, 10, 11, 12, 13, 14, 15, 16, 17, 18, 19, 28, 29, 31, 46] [6, 7, 8, 9, 10, 11, 12, 14, 15, 16, 17, 18, 19, 20, 21, 22, 23, 24, 28, 29, 30, 31] G A Gx Ax → Gx 9 = ln1 → Gx 16 = fk1 → Gx 19 = sy1 → Gx 28 = na1 → Gx 29 = vi → Gx 46 = pc0 → ((-2147483648 : Int) ≤ p ∧ p ≤ 2147483647) → (1 ≤ fk1) → (ln ≤ ln1) → (ln1 ≤ li) → (sy + 1 ≤ sy1) → (sy1 ≤ na1 + 2) → (p = sy) → (pc0 ≤ 23) → wj X d jm308 (327, L, [], rV c0 c1 Gx Ax T) (fun o V' => ∃ (G' : Nat → Int) (A' : Nat → Nat → Int) (ln2 : Int) (at2 : Int) (fk2 : Int) (nd2 : Int) (sy2 : Int) (na2 : Int) (vi2 : Int) (lf2 : Int) (pc2 : Int), V' = rV c0 c1 G' A' T ∧ o = .inl none ∧ Wk G' A' ∧ Fr [9, 10, 11, 12, 13, 14, 15, 16, 17, 18, 19, 28, 29, 31, 46] [6, 7, 8, 9, 10, 11, 12, 14, 15, 16, 17, 18, 19, 20, 21, 22, 23, 24, 28, 29, 30, 31] G A G' A' ∧ G' 9 = ln2 ∧ G' 10 = at2 ∧ G' 16 = fk2 ∧ G' 31 = nd2 ∧ G' 19 = sy2 ∧ G' 28 = na2 ∧ G' 29 = vi2 ∧ A' 3 (ln2).toNat = lf2 ∧ G' 46 = pc2 ∧ (sy2 ≤ na2 + 2) ∧ (vi2 ≤ sy2) ∧ (ln ≤ ln2) ∧ (ln2 ≤ li) ∧ (((1 ≤ fk2)) ∨ ((fk2 = 0) ∧ (ln < ln2) ∧ (at0 ≤ at2) ∧ (nd2 - nd ≤ 2 * at2 - (2 * at0 - tz tk0)) ∧ (at2 < lf2 ∨ li ≤ ln2)))) := by
    intro L Gx Ax p ln1 fk1 sy1 na1 gL_0 gL_1 hWx hFx ex_ln1 ex_fk1 ex_sy1 ex_na1 fx_29 fx_46 rx_p iv_0 iv_1 iv_2 iv_3 iv_4 iv_5 iv_6
    have b_ln1 : (0 : Int) ≤ ln1 ∧ ln1 ≤ 3000 := ex_ln1 ▸ hWx.1 9
    have b_fk1 : (0 : Int) ≤ fk1 ∧ fk1 ≤ 6 := ex_fk1 ▸ hWx.1 16
    have b_sy1 : (0 : Int) ≤ sy1 ∧ sy1 ≤ 202 := ex_sy1 ▸ hWx.1 19
    have b_na1 : (0 : Int) ≤ na1 ∧ na1 ≤ 200 := ex_na1 ▸ hWx.1 28
    refine jx_ld (pc' := 328) (l' := L) (st' := [.ref 66]) rfl (jl_aloadn gL_0) ?_
    refine jx_ld (pc' := 329) (l' := L) (st' := [.int (i32 (p)), .ref 66]) rfl (jl_iloadn gL_1) ?_
    refine jx_vr (pc' := 332) (as := [.int (i32 (p))]) (st := []) rfl rfl rfl rfl ⟨rfl, rfl, Nat.le_of_ble_eq_true rfl⟩ rfl rfl (c_show (dd := d) (hd := by omega) (hW := hWx) (s := p) (vi := vi) (e_vi := show Gx 29 = vi from (fx_29))  (h_s := ⟨(Int.le_trans (by decide : (-2147483648 : Int) ≤ -2147483648) rx_p.1), (Int.le_trans rx_p.2 (by decide : (2147483647 : Int) ≤ 2147483647))⟩)  (p_0 := by omega) (p_1 := by omega)) (fun o V' hq => ?_)
    obtain ⟨G1, A2, vi2_3, rfl, rfl, hW4, hF5, e6, p7, -⟩ := hq
    have hF9 := Fr_tr hFx hF5 (Fr_sub (by decide)) (Fr_sub (by decide))
    have bvi2_3 : (0 : Int) ≤ vi2_3 ∧ vi2_3 ≤ 202 := e6 ▸ hW4.1 29
    refine .inl ⟨rfl, ?_⟩
    refine jx_ld (pc' := 333) (l' := L) (st' := [.ref 66]) rfl (jl_aloadn gL_0) ?_
    refine jx_ar (pc' := 334) (st' := [.ref 66, .ref 66]) rfl rfl rfl rfl ?_
    refine jr_get (pc' := 337) (i := 46) (v := .int (i32 (pc0))) rfl rfl (by decide) (rFv_eq (by decide) (show G1 46 = pc0 from ((hF5.1 46 rfl).trans (fx_46)))) rfl ?_
    refine jx_ar (pc' := 338) (st' := [.int (i32 (1)), .int (i32 (pc0)), .ref 66]) rfl rfl rfl rfl ?_
    refine jx_add (pc' := 339) rfl rfl ?_
    refine jr_put (pc' := 342) (i := 46) (z := (pc0 + 1)) rfl rfl (by decide) rfl rfl rfl rfl rfl rfl ?_
    have hW10 : Wk (uG G1 46 ((pc0 + 1))) A2 := Wk_g hW4 (show (0 : Int) ≤ (pc0 + 1) by omega) (show (pc0 + 1) ≤ (24 : Int) by omega)
    have hF11 := Fr_g (z := (pc0 + 1)) (i := 46) hF9 (by decide)
    refine jx_rt (v := none) rfl rfl rfl rfl rfl rfl ?_
    exact ⟨_, _, ln1, Gx 10, fk1, Gx 31, sy1, na1, vi2_3, A 3 (ln1).toNat, (pc0 + 1), rfl, rfl, hW10, hF11, ((hF5.1 9 rfl).trans (ex_ln1)), (hF5.1 10 rfl), ((hF5.1 16 rfl).trans (ex_fk1)), (hF5.1 31 rfl), ((hF5.1 19 rfl).trans (ex_sy1)), ((hF5.1 28 rfl).trans (ex_na1)), (e6), (congrFun ((hF5.2 3 rfl).trans (hFx.2 3 rfl)) _), rfl, by omega, by omega, by omega, by omega, by first | exact Or.inl (by omega) | exact Or.inr ((⟨by omega, by omega, by omega, by omega, by omega⟩))⟩
  have at_253 : ∀ (m : Nat) (L : jL) (Gx : Nat → Int) (Ax : Nat → Nat → Int) (p many was kk ln1 at1 fk1 sy1 na1 vi1 pp1 lf1 : Int), (many - kk).toNat = m → jGet L 0 = some (.ref 66) → jGet L 1 = some (.int (i32 p)) → jGet L 2 = some (.int (i32 many)) → jGet L 4 = some (.int (i32 was)) → jGet L 5 = some (.int (i32 kk)) → Wk Gx Ax → Fr [9, 10, 11, 12, 13, 14, 15, 16, 17, 18, 19, 28, 29, 31, 46] [6, 7, 8, 9, 10, 11, 12, 14, 15, 16, 17, 18, 19, 20, 21, 22, 23, 24, 28, 29, 30, 31] G A Gx Ax → Gx 9 = ln1 → Gx 10 = at1 → Gx 16 = fk1 → Gx 19 = sy1 → Gx 28 = na1 → Gx 29 = vi1 → Ax 29 (pc0).toNat = pp1 → Ax 3 (ln1).toNat = lf1 → Gx 46 = pc0 → Gx 31 = nd → ((-2147483648 : Int) ≤ p ∧ p ≤ 2147483647) → ((-2147483648 : Int) ≤ many ∧ many ≤ 2147483647) → ((-2147483648 : Int) ≤ was ∧ was ≤ 2147483647) → ((-2147483648 : Int) ≤ kk ∧ kk ≤ 2147483647) → (fk1 = 0) → (ln1 = ln + 1) → (at0 ≤ at1) → (at1 < lf1 ∨ li ≤ ln1) → (sy1 = sy + 1 + many) → (sy1 ≤ na1 + 2) → (vi1 = vi + kk) → (0 ≤ kk ∧ kk ≤ many) → (many ≤ 6) → (pp1 = sy + 1) → (p = sy) → (was = vi) → (pc0 ≤ 23) → wj X d jm308 (253, L, [], rV c0 c1 Gx Ax T) (fun o V' => ∃ (G' : Nat → Int) (A' : Nat → Nat → Int) (ln2 : Int) (at2 : Int) (fk2 : Int) (nd2 : Int) (sy2 : Int) (na2 : Int) (vi2 : Int) (lf2 : Int) (pc2 : Int), V' = rV c0 c1 G' A' T ∧ o = .inl none ∧ Wk G' A' ∧ Fr [9, 10, 11, 12, 13, 14, 15, 16, 17, 18, 19, 28, 29, 31, 46] [6, 7, 8, 9, 10, 11, 12, 14, 15, 16, 17, 18, 19, 20, 21, 22, 23, 24, 28, 29, 30, 31] G A G' A' ∧ G' 9 = ln2 ∧ G' 10 = at2 ∧ G' 16 = fk2 ∧ G' 31 = nd2 ∧ G' 19 = sy2 ∧ G' 28 = na2 ∧ G' 29 = vi2 ∧ A' 3 (ln2).toNat = lf2 ∧ G' 46 = pc2 ∧ (sy2 ≤ na2 + 2) ∧ (vi2 ≤ sy2) ∧ (ln ≤ ln2) ∧ (ln2 ≤ li) ∧ (((1 ≤ fk2)) ∨ ((fk2 = 0) ∧ (ln < ln2) ∧ (at0 ≤ at2) ∧ (nd2 - nd ≤ 2 * at2 - (2 * at0 - tz tk0)) ∧ (at2 < lf2 ∨ li ≤ ln2)))) := by
    intro m
    induction m using Nat.strongRecOn with
    | ind m ih253 =>
      intro L Gx Ax p many was kk ln1 at1 fk1 sy1 na1 vi1 pp1 lf1 hm gL_0 gL_1 gL_2 gL_4 gL_5 hWx hFx ex_ln1 ex_at1 ex_fk1 ex_sy1 ex_na1 ex_vi1 ex_pp1 ex_lf1 fx_46 fx_31 rx_p rx_many rx_was rx_kk iv_0 iv_1 iv_2 iv_3 iv_4 iv_5 iv_6 iv_7 iv_8 iv_9 iv_10 iv_11 iv_12
      have b_ln1 : (0 : Int) ≤ ln1 ∧ ln1 ≤ 3000 := ex_ln1 ▸ hWx.1 9
      have b_at1 : (0 : Int) ≤ at1 ∧ at1 ≤ 3002 := ex_at1 ▸ hWx.1 10
      have b_fk1 : (0 : Int) ≤ fk1 ∧ fk1 ≤ 6 := ex_fk1 ▸ hWx.1 16
      have b_sy1 : (0 : Int) ≤ sy1 ∧ sy1 ≤ 202 := ex_sy1 ▸ hWx.1 19
      have b_na1 : (0 : Int) ≤ na1 ∧ na1 ≤ 200 := ex_na1 ▸ hWx.1 28
      have b_vi1 : (0 : Int) ≤ vi1 ∧ vi1 ≤ 202 := ex_vi1 ▸ hWx.1 29
      refine jx_ld (pc' := 255) (l' := L) (st' := [.int (i32 (kk))]) rfl (jl_iload gL_5) ?_
      refine jx_ld (pc' := 256) (l' := L) (st' := [.int (i32 (many)), .int (i32 (kk))]) rfl (jl_iloadn gL_2) ?_
      refine jx_icmp_ge (pc' := 259) (tg := 281) rfl rfl rfl (Int.le_trans (by decide : (-2147483648 : Int) ≤ -2147483648) rx_kk.1) (Int.le_trans rx_kk.2 (by decide : (2147483647 : Int) ≤ 2147483647)) (Int.le_trans (by decide : (-2147483648 : Int) ≤ -2147483648) rx_many.1) (Int.le_trans rx_many.2 (by decide : (2147483647 : Int) ≤ 2147483647)) (fun h12 => ?_) (fun h12 => ?_)
      · have _q := h12
        refine jx_ld (pc' := 282) (l' := L) (st' := [.ref 66]) rfl (jl_aloadn gL_0) ?_
        refine jr_get (pc' := 285) (i := 49) (v := .ref 98) rfl rfl (by decide) rfl rfl ?_
        refine jx_ld (pc' := 286) (l' := L) (st' := [.ref 66, .ref 98]) rfl (jl_aloadn gL_0) ?_
        refine jr_get (pc' := 289) (i := 46) (v := .int (i32 (pc0))) rfl rfl (by decide) (rFv_eq (by decide) (show Gx 46 = pc0 from (fx_46))) rfl ?_
        refine jx_ld (pc' := 290) (l' := L) (st' := [.ref 66, .int (i32 (pc0)), .ref 98]) rfl (jl_aloadn gL_0) ?_
        refine jx_ar (pc' := 291) (st' := [.int (i32 (1)), .ref 66, .int (i32 (pc0)), .ref 98]) rfl rfl rfl rfl ?_
        refine jx_vr (pc' := 294) (as := [.int (i32 (1))]) (st := [.int (i32 (pc0)), .ref 98]) rfl rfl rfl rfl ⟨rfl, rfl, Nat.le_of_ble_eq_true rfl⟩ rfl rfl (RP_all X 18 (dd := d) (hd := by omega) (hW := hWx) (lv := 1) (at0 := at1) (ln := ln1) (e_ln := show Gx 9 = ln1 from (ex_ln1)) (li := li) (e_li := show Gx 3 = li from ((hFx.1 3 rfl).trans (e_li))) (fk := fk1) (e_fk := show Gx 16 = fk1 from (ex_fk1)) (nd := nd) (e_nd := show Gx 31 = nd from (fx_31)) (sy := sy1) (e_sy := show Gx 19 = sy1 from (ex_sy1)) (na := na1) (e_na := show Gx 28 = na1 from (ex_na1)) (vi := vi1) (e_vi := show Gx 29 = vi1 from (ex_vi1)) (lf := lf1) (e_lf := show Ax 3 (ln1).toNat = lf1 from (ex_lf1)) (ac := at1) (e_ac := show Gx 10 = at1 from (ex_at1)) (i_LT := (LT_ext ((hFx.1 3 rfl)) ((hFx.2 3 rfl)) ((hFx.2 4 rfl)) i_LT)) (h_lv := ⟨(by decide), (by decide)⟩)  (p_0 := by omega) (p_1 := by omega) (p_2 := by omega) (p_3 := by omega) (p_4 := by omega) (p_5 := by omega) (p_6 := by omega) (p_7 := by omega) (p_8 := by omega) (p_9 := by omega)) (fun o V' hq => ?_)
        obtain ⟨G13, A14, r15, ln2_16, at2_17, fk2_18, nd2_19, sy2_20, na2_21, vi2_22, lf2_23, rfl, rfl, hW24, hF25, hQ26, b27, e28, e29, e30, e31, e32, e33, e34, e35, p36, p37, p38, p39, p40, p41, p42, p43, p44, q45⟩ := hq
        have hF46 := Fr_tr hFx hF25 (Fr_sub (by decide)) (Fr_sub (by decide))
        have bln2_16 : (0 : Int) ≤ ln2_16 ∧ ln2_16 ≤ 3000 := e28 ▸ hW24.1 9
        have bat2_17 : (0 : Int) ≤ at2_17 ∧ at2_17 ≤ 3002 := e29 ▸ hW24.1 10
        have bfk2_18 : (0 : Int) ≤ fk2_18 ∧ fk2_18 ≤ 6 := e30 ▸ hW24.1 16
        have bnd2_19 : (0 : Int) ≤ nd2_19 ∧ nd2_19 ≤ 6999 := e31 ▸ hW24.1 31
        have bsy2_20 : (0 : Int) ≤ sy2_20 ∧ sy2_20 ≤ 202 := e32 ▸ hW24.1 19
        have bna2_21 : (0 : Int) ≤ na2_21 ∧ na2_21 ≤ 200 := e33 ▸ hW24.1 28
        have bvi2_22 : (0 : Int) ≤ vi2_22 ∧ vi2_22 ≤ 202 := e34 ▸ hW24.1 29
        have blf2_23 : (0 : Int) ≤ lf2_23 ∧ lf2_23 ≤ 3000 := e35 ▸ hW24.2 3 _
        refine .inr ⟨_, rfl, ?_⟩
        rcases q45 with ⟨a47, a48⟩ | ⟨a49, a50, a51, a52, a53, a54⟩
        · have _q : True := trivial
          refine jr_st (pc' := 295) (i := 31) (m := 25) (z := pc0) (y := r15) rfl (by decide) rfl (by decide) (by omega) (by omega) rfl ?_
          have hW56 : Wk G13 (uA A14 31 (pc0).toNat (r15)) := Wk_a hW24 (show (-2147483648 : Int) ≤ r15 by omega) (show r15 ≤ (2147483647 : Int) by omega)
          have hF57 := Fr_a (z := r15) (k := 31) (n := (pc0).toNat) hF46 (by decide)
          obtain ⟨A55, eA55⟩ : ∃ q, q = uA A14 31 (pc0).toNat (r15) := ⟨_, rfl⟩
          rw [← eA55]
          rw [← eA55] at hW56 hF57
          have q58 : A55 31 (pc0).toNat = r15 := by rw [eA55]; exact uA_eq
          refine jx_ld (pc' := 296) (l' := L) (st' := [.ref 66]) rfl (jl_aloadn gL_0) ?_
          refine jx_ld (pc' := 298) (l' := L) (st' := [.int (i32 (was)), .ref 66]) rfl (jl_iload gL_4) ?_
          refine jr_put (pc' := 301) (i := 29) (z := was) rfl rfl (by decide) rfl rfl rfl rfl rfl rfl ?_
          have hW59 : Wk (uG G13 29 (was)) A55 := Wk_g hW56 (show (0 : Int) ≤ was by omega) (show was ≤ (202 : Int) by omega)
          have hF60 := Fr_g (z := was) (i := 29) hF57 (by decide)
          refine jx_ld (pc' := 302) (l' := L) (st' := [.ref 66]) rfl (jl_aloadn gL_0) ?_
          refine jx_ar (pc' := 303) (st' := [.int (i32 (0)), .ref 66]) rfl rfl rfl rfl ?_
          have b61 : (-1 : Int) ≤ A 5 (ln2_16).toNat ∧ A 5 (ln2_16).toNat ≤ 15 := hW.2 5 _
          refine jx_vr (pc' := 306) (as := [.int (i32 (0))]) (st := []) rfl rfl rfl rfl ⟨rfl, rfl, Nat.le_of_ble_eq_true rfl⟩ rfl rfl (c_needLevel (dd := d) (hd := by omega) (hW := hW59) (lv := 0) (ln := ln2_16) (e_ln := show (uG G13 29 (was)) 9 = ln2_16 from (e28)) (li := li) (e_li := show (uG G13 29 (was)) 3 = li from ((hF25.1 3 rfl).trans ((hFx.1 3 rfl).trans (e_li)))) (fk := fk2_18) (e_fk := show (uG G13 29 (was)) 16 = fk2_18 from (e30)) (ll := A 5 (ln2_16).toNat) (e_ll := show A55 5 (ln2_16).toNat = A 5 (ln2_16).toNat from (congrFun (((congrFun eA55 5).trans (uA_ne (by decide))).trans ((hF25.2 5 rfl).trans (hFx.2 5 rfl))) _))  (h_lv := ⟨(by decide), (by decide)⟩)  ) (fun o V' hq => ?_)
          obtain ⟨G62, A63, r64, fk2_65, rfl, rfl, hW66, hF67, b68, e69, q70⟩ := hq
          have hF71 := Fr_tr hF60 hF67 (Fr_sub (by decide)) (Fr_sub (by decide))
          have bfk2_65 : (0 : Int) ≤ fk2_65 ∧ fk2_65 ≤ 6 := e69 ▸ hW66.1 16
          refine .inr ⟨_, rfl, ?_⟩
          rcases q70 with ⟨rfl, a72, a73, a74, a75⟩ | ⟨rfl, a76⟩
          · have _q : True := trivial
            exfalso
            omega
          · have _q : True := trivial
            refine jx_if_eq (pc' := 309) (tg := 327) rfl rfl rfl (by decide) (by decide) (fun h77 => ?_) (fun h77 => ?_)
            · have _q := h77
              exact at_327p L G62 A63 (p) (ln2_16) (fk2_65) (sy2_20) (na2_21) gL_0 gL_1 hW66 hF71 (((hF67.1 9 rfl).trans (e28))) ((e69)) (((hF67.1 19 rfl).trans (e32))) (((hF67.1 28 rfl).trans (e33))) (Eq.trans (show G62 29 = was from (hF67.1 29 rfl)) (by omega)) (((hF67.1 46 rfl).trans ((hF25.1 46 rfl).trans (fx_46)))) (by omega) (by omega) (by omega) (by omega) (by omega) (by omega) (by omega) (by omega)
            · have _q := h77
              exact absurd h77 (by omega)
        · have _q : True := trivial
          refine jr_st (pc' := 295) (i := 31) (m := 25) (z := pc0) (y := r15) rfl (by decide) rfl (by decide) (by omega) (by omega) rfl ?_
          have hW79 : Wk G13 (uA A14 31 (pc0).toNat (r15)) := Wk_a hW24 (show (-2147483648 : Int) ≤ r15 by omega) (show r15 ≤ (2147483647 : Int) by omega)
          have hF80 := Fr_a (z := r15) (k := 31) (n := (pc0).toNat) hF46 (by decide)
          obtain ⟨A78, eA78⟩ : ∃ q, q = uA A14 31 (pc0).toNat (r15) := ⟨_, rfl⟩
          rw [← eA78]
          rw [← eA78] at hW79 hF80
          have q81 : A78 31 (pc0).toNat = r15 := by rw [eA78]; exact uA_eq
          refine jx_ld (pc' := 296) (l' := L) (st' := [.ref 66]) rfl (jl_aloadn gL_0) ?_
          refine jx_ld (pc' := 298) (l' := L) (st' := [.int (i32 (was)), .ref 66]) rfl (jl_iload gL_4) ?_
          refine jr_put (pc' := 301) (i := 29) (z := was) rfl rfl (by decide) rfl rfl rfl rfl rfl rfl ?_
          have hW82 : Wk (uG G13 29 (was)) A78 := Wk_g hW79 (show (0 : Int) ≤ was by omega) (show was ≤ (202 : Int) by omega)
          have hF83 := Fr_g (z := was) (i := 29) hF80 (by decide)
          refine jx_ld (pc' := 302) (l' := L) (st' := [.ref 66]) rfl (jl_aloadn gL_0) ?_
          refine jx_ar (pc' := 303) (st' := [.int (i32 (0)), .ref 66]) rfl rfl rfl rfl ?_
          have b84 : (-1 : Int) ≤ A 5 (ln2_16).toNat ∧ A 5 (ln2_16).toNat ≤ 15 := hW.2 5 _
          refine jx_vr (pc' := 306) (as := [.int (i32 (0))]) (st := []) rfl rfl rfl rfl ⟨rfl, rfl, Nat.le_of_ble_eq_true rfl⟩ rfl rfl (c_needLevel (dd := d) (hd := by omega) (hW := hW82) (lv := 0) (ln := ln2_16) (e_ln := show (uG G13 29 (was)) 9 = ln2_16 from (e28)) (li := li) (e_li := show (uG G13 29 (was)) 3 = li from ((hF25.1 3 rfl).trans ((hFx.1 3 rfl).trans (e_li)))) (fk := fk2_18) (e_fk := show (uG G13 29 (was)) 16 = fk2_18 from (e30)) (ll := A 5 (ln2_16).toNat) (e_ll := show A78 5 (ln2_16).toNat = A 5 (ln2_16).toNat from (congrFun (((congrFun eA78 5).trans (uA_ne (by decide))).trans ((hF25.2 5 rfl).trans (hFx.2 5 rfl))) _))  (h_lv := ⟨(by decide), (by decide)⟩)  ) (fun o V' hq => ?_)
          obtain ⟨G85, A86, r87, fk2_88, rfl, rfl, hW89, hF90, b91, e92, q93⟩ := hq
          have hF94 := Fr_tr hF83 hF90 (Fr_sub (by decide)) (Fr_sub (by decide))
          have bfk2_88 : (0 : Int) ≤ fk2_88 ∧ fk2_88 ≤ 6 := e92 ▸ hW89.1 16
          refine .inr ⟨_, rfl, ?_⟩
          rcases q93 with ⟨rfl, a95, a96, a97, a98⟩ | ⟨rfl, a99⟩
          · have _q : True := trivial
            have b100 : (0 : Int) ≤ A 4 (ln2_16).toNat ∧ A 4 (ln2_16).toNat ≤ 3000 := hW.2 4 _
            have lt101 : lf2_23 < A 4 (ln2_16).toNat := LT_at (LT_ext (((hF90.1 3 rfl).trans ((hF25.1 3 rfl).trans (hFx.1 3 rfl)))) (((hF90.2 3 rfl).trans (((congrFun eA78 3).trans (uA_ne (by decide))).trans ((hF25.2 3 rfl).trans (hFx.2 3 rfl))))) (((hF90.2 4 rfl).trans (((congrFun eA78 4).trans (uA_ne (by decide))).trans ((hF25.2 4 rfl).trans (hFx.2 4 rfl))))) i_LT) (show G85 3 = li from ((hF90.1 3 rfl).trans ((hF25.1 3 rfl).trans ((hFx.1 3 rfl).trans (e_li))))) (show A86 3 (ln2_16).toNat = lf2_23 from (congrFun ((hF90.2 3 rfl).trans ((congrFun eA78 3).trans (uA_ne (by decide)))) _).trans (e35)) (show A86 4 (ln2_16).toNat = A 4 (ln2_16).toNat from (congrFun ((hF90.2 4 rfl).trans (((congrFun eA78 4).trans (uA_ne (by decide))).trans ((hF25.2 4 rfl).trans (hFx.2 4 rfl)))) _)) (by omega) (by omega)
            refine jx_if_eq (pc' := 309) (tg := 327) rfl rfl rfl (by decide) (by decide) (fun h102 => ?_) (fun h102 => ?_)
            · have _q := h102
              exact absurd h102 (by omega)
            · have _q := h102
              refine jx_ld (pc' := 310) (l' := L) (st' := [.ref 66]) rfl (jl_aloadn gL_0) ?_
              refine jx_vr (pc' := 313) (as := []) (st := []) rfl rfl rfl rfl ⟨rfl, rfl, Nat.le_of_ble_eq_true rfl⟩ rfl rfl (c_openLine (dd := d) (hd := by omega) (hW := hW89)  (ln := ln2_16) (e_ln := show G85 9 = ln2_16 from ((hF90.1 9 rfl).trans (e28))) (le := A 4 (ln2_16).toNat) (e_le := show A86 4 (ln2_16).toNat = A 4 (ln2_16).toNat from (congrFun ((hF90.2 4 rfl).trans (((congrFun eA78 4).trans (uA_ne (by decide))).trans ((hF25.2 4 rfl).trans (hFx.2 4 rfl)))) _)) (lf := lf2_23) (e_lf := show A86 3 (ln2_16).toNat = lf2_23 from (congrFun ((hF90.2 3 rfl).trans ((congrFun eA78 3).trans (uA_ne (by decide)))) _).trans (e35))    (p_0 := by omega)) (fun o V' hq => ?_)
              obtain ⟨G103, A104, at2_105, tk2_106, op2_107, rfl, rfl, hW108, hF109, e110, e111, e112, p113, p114, p115, p116, -⟩ := hq
              have hF118 := Fr_tr hF94 hF109 (Fr_sub (by decide)) (Fr_sub (by decide))
              have bat2_105 : (0 : Int) ≤ at2_105 ∧ at2_105 ≤ 3002 := e110 ▸ hW108.1 10
              have ztk2_106 := tz_b tk2_106
              have btk2_106 : (0 : Int) ≤ tk2_106 ∧ tk2_106 ≤ 5 := e111 ▸ hW108.1 11
              have bop2_107 : (-2147483648 : Int) ≤ op2_107 ∧ op2_107 ≤ 2147483647 := e112 ▸ hW108.1 15
              refine .inl ⟨rfl, ?_⟩
              refine jx_ld (pc' := 314) (l' := L) (st' := [.ref 66]) rfl (jl_aloadn gL_0) ?_
              refine jx_ld (pc' := 315) (l' := L) (st' := [.ref 66, .ref 66]) rfl (jl_aloadn gL_0) ?_
              refine jx_ar (pc' := 317) (st' := [.int (i32 (58)), .ref 66, .ref 66]) rfl rfl rfl rfl ?_
              have b119 : (-2147483648 : Int) ≤ G103 13 ∧ G103 13 ≤ 2147483647 := hW108.1 13
              refine jx_vr (pc' := 320) (as := [.int (i32 (58))]) (st := [.ref 66]) rfl rfl rfl rfl ⟨rfl, rfl, Nat.le_of_ble_eq_true rfl⟩ rfl rfl (c_is (dd := d) (hd := by omega) (hW := hW108) (k := 58) (tk := tk2_106) (e_tk := show G103 11 = tk2_106 from (e111)) (tn := G103 13) (e_tn := show G103 13 = G103 13 from rfl)  (h_k := ⟨(by decide), (by decide)⟩)  ) (fun o V' hq => ?_)
              obtain ⟨r120, rfl, rfl, b121, q122⟩ := hq
              refine .inr ⟨_, rfl, ?_⟩
              rcases q122 with ⟨rfl, a123, a124, a125⟩ | rfl
              · have _q : True := trivial
                refine jx_vr (pc' := 323) (as := [.int (i32 (1))]) (st := []) rfl rfl rfl rfl ⟨rfl, rfl, Nat.le_of_ble_eq_true rfl⟩ rfl rfl (c_need (dd := d) (hd := by omega) (hW := hW108) (g := 1) (ln := ln2_16) (e_ln := show G103 9 = ln2_16 from ((hF109.1 9 rfl).trans ((hF90.1 9 rfl).trans (e28)))) (le := A 4 (ln2_16).toNat) (e_le := show A104 4 (ln2_16).toNat = A 4 (ln2_16).toNat from (congrFun ((hF109.2 4 rfl).trans ((hF90.2 4 rfl).trans (((congrFun eA78 4).trans (uA_ne (by decide))).trans ((hF25.2 4 rfl).trans (hFx.2 4 rfl))))) _)) (at0 := at2_105) (e_at0 := show G103 10 = at2_105 from (e110)) (fk := fk2_88) (e_fk := show G103 16 = fk2_88 from ((hF109.1 16 rfl).trans (e92))) (tk0 := tk2_106) (e_tk0 := show G103 11 = tk2_106 from (e111))  (h_g := ⟨(by decide), (by decide)⟩)  (p_0 := by omega)) (fun o V' hq => ?_)
                obtain ⟨G126, A127, at2_128, tk2_129, fk2_130, rfl, rfl, hW131, hF132, e133, e134, e135, p136, p137, q138⟩ := hq
                have hF139 := Fr_tr hF118 hF132 (Fr_sub (by decide)) (Fr_sub (by decide))
                have bat2_128 : (0 : Int) ≤ at2_128 ∧ at2_128 ≤ 3002 := e133 ▸ hW131.1 10
                have ztk2_129 := tz_b tk2_129
                have btk2_129 : (0 : Int) ≤ tk2_129 ∧ tk2_129 ≤ 5 := e134 ▸ hW131.1 11
                have bfk2_130 : (0 : Int) ≤ fk2_130 ∧ fk2_130 ≤ 6 := e135 ▸ hW131.1 16
                refine .inl ⟨rfl, ?_⟩
                rcases q138 with ⟨a140, a141, a142, a143⟩ | ⟨a144, a145, a146, a147⟩
                · have _q : True := trivial
                  refine jx_ld (pc' := 324) (l' := L) (st' := [.ref 66]) rfl (jl_aloadn gL_0) ?_
                  refine jx_vr (pc' := 327) (as := []) (st := []) rfl rfl rfl rfl ⟨rfl, rfl, Nat.le_of_ble_eq_true rfl⟩ rfl rfl (c_endLine (dd := d) (hd := by omega) (hW := hW131)  (ln := ln2_16) (e_ln := show G126 9 = ln2_16 from ((hF132.1 9 rfl).trans ((hF109.1 9 rfl).trans ((hF90.1 9 rfl).trans (e28))))) (li := li) (e_li := show G126 3 = li from ((hF132.1 3 rfl).trans ((hF109.1 3 rfl).trans ((hF90.1 3 rfl).trans ((hF25.1 3 rfl).trans ((hFx.1 3 rfl).trans (e_li))))))) (fk := fk2_130) (e_fk := show G126 16 = fk2_130 from (e135)) (tk0 := tk2_129) (e_tk0 := show G126 11 = tk2_129 from (e134))    (p_0 := by omega)) (fun o V' hq => ?_)
                  obtain ⟨G148, A149, ln2_150, fk2_151, rfl, rfl, hW152, hF153, e154, e155, q156⟩ := hq
                  have hF157 := Fr_tr hF139 hF153 (Fr_sub (by decide)) (Fr_sub (by decide))
                  have bln2_150 : (0 : Int) ≤ ln2_150 ∧ ln2_150 ≤ 3000 := e154 ▸ hW152.1 9
                  have bfk2_151 : (0 : Int) ≤ fk2_151 ∧ fk2_151 ≤ 6 := e155 ▸ hW152.1 16
                  refine .inl ⟨rfl, ?_⟩
                  rcases q156 with ⟨a158, a159, a160, a161, a162⟩ | ⟨a163, a164⟩
                  · have _q : True := trivial
                    exfalso
                    omega
                  · have _q : True := trivial
                    exact at_327p L G148 A149 (p) (ln2_150) (fk2_151) (sy2_20) (na2_21) gL_0 gL_1 hW152 hF157 ((e154)) ((e155)) (((hF153.1 19 rfl).trans ((hF132.1 19 rfl).trans ((hF109.1 19 rfl).trans ((hF90.1 19 rfl).trans (e32)))))) (((hF153.1 28 rfl).trans ((hF132.1 28 rfl).trans ((hF109.1 28 rfl).trans ((hF90.1 28 rfl).trans (e33)))))) (Eq.trans (show G148 29 = was from ((hF153.1 29 rfl).trans ((hF132.1 29 rfl).trans ((hF109.1 29 rfl).trans (hF90.1 29 rfl))))) (by omega)) (((hF153.1 46 rfl).trans ((hF132.1 46 rfl).trans ((hF109.1 46 rfl).trans ((hF90.1 46 rfl).trans ((hF25.1 46 rfl).trans (fx_46))))))) (by omega) (by omega) (by omega) (by omega) (by omega) (by omega) (by omega) (by omega)
                · have _q : True := trivial
                  refine jx_ld (pc' := 324) (l' := L) (st' := [.ref 66]) rfl (jl_aloadn gL_0) ?_
                  refine jx_vr (pc' := 327) (as := []) (st := []) rfl rfl rfl rfl ⟨rfl, rfl, Nat.le_of_ble_eq_true rfl⟩ rfl rfl (c_endLine (dd := d) (hd := by omega) (hW := hW131)  (ln := ln2_16) (e_ln := show G126 9 = ln2_16 from ((hF132.1 9 rfl).trans ((hF109.1 9 rfl).trans ((hF90.1 9 rfl).trans (e28))))) (li := li) (e_li := show G126 3 = li from ((hF132.1 3 rfl).trans ((hF109.1 3 rfl).trans ((hF90.1 3 rfl).trans ((hF25.1 3 rfl).trans ((hFx.1 3 rfl).trans (e_li))))))) (fk := fk2_130) (e_fk := show G126 16 = fk2_130 from (e135)) (tk0 := tk2_129) (e_tk0 := show G126 11 = tk2_129 from (e134))    (p_0 := by omega)) (fun o V' hq => ?_)
                  obtain ⟨G165, A166, ln2_167, fk2_168, rfl, rfl, hW169, hF170, e171, e172, q173⟩ := hq
                  have hF174 := Fr_tr hF139 hF170 (Fr_sub (by decide)) (Fr_sub (by decide))
                  have bln2_167 : (0 : Int) ≤ ln2_167 ∧ ln2_167 ≤ 3000 := e171 ▸ hW169.1 9
                  have bfk2_168 : (0 : Int) ≤ fk2_168 ∧ fk2_168 ≤ 6 := e172 ▸ hW169.1 16
                  refine .inl ⟨rfl, ?_⟩
                  rcases q173 with ⟨a175, a176, a177, a178, a179⟩ | ⟨a180, a181⟩
                  · have _q : True := trivial
                    have b182 : (0 : Int) ≤ A 3 (ln2_167).toNat ∧ A 3 (ln2_167).toNat ≤ 3000 := hW.2 3 _
                    have lt183 : ln2_167 < li → A 4 (ln2_16).toNat < A 3 (ln2_167).toNat := fun hh => LT_nx (LT_ext (((hF170.1 3 rfl).trans ((hF132.1 3 rfl).trans ((hF109.1 3 rfl).trans ((hF90.1 3 rfl).trans ((hF25.1 3 rfl).trans (hFx.1 3 rfl))))))) (((hF170.2 3 rfl).trans ((hF132.2 3 rfl).trans ((hF109.2 3 rfl).trans ((hF90.2 3 rfl).trans (((congrFun eA78 3).trans (uA_ne (by decide))).trans ((hF25.2 3 rfl).trans (hFx.2 3 rfl)))))))) (((hF170.2 4 rfl).trans ((hF132.2 4 rfl).trans ((hF109.2 4 rfl).trans ((hF90.2 4 rfl).trans (((congrFun eA78 4).trans (uA_ne (by decide))).trans ((hF25.2 4 rfl).trans (hFx.2 4 rfl)))))))) i_LT) (show G165 3 = li from ((hF170.1 3 rfl).trans ((hF132.1 3 rfl).trans ((hF109.1 3 rfl).trans ((hF90.1 3 rfl).trans ((hF25.1 3 rfl).trans ((hFx.1 3 rfl).trans (e_li)))))))) (show A166 4 (ln2_16).toNat = A 4 (ln2_16).toNat from (congrFun ((hF170.2 4 rfl).trans ((hF132.2 4 rfl).trans ((hF109.2 4 rfl).trans ((hF90.2 4 rfl).trans (((congrFun eA78 4).trans (uA_ne (by decide))).trans ((hF25.2 4 rfl).trans (hFx.2 4 rfl))))))) _)) (show A166 3 (ln2_167).toNat = A 3 (ln2_167).toNat from (congrFun ((hF170.2 3 rfl).trans ((hF132.2 3 rfl).trans ((hF109.2 3 rfl).trans ((hF90.2 3 rfl).trans (((congrFun eA78 3).trans (uA_ne (by decide))).trans ((hF25.2 3 rfl).trans (hFx.2 3 rfl))))))) _)) (show ln2_167 = ln2_16 + 1 by omega) (by omega) hh
                    refine jx_ld (pc' := 328) (l' := L) (st' := [.ref 66]) rfl (jl_aloadn gL_0) ?_
                    refine jx_ld (pc' := 329) (l' := L) (st' := [.int (i32 (p)), .ref 66]) rfl (jl_iloadn gL_1) ?_
                    refine jx_vr (pc' := 332) (as := [.int (i32 (p))]) (st := []) rfl rfl rfl rfl ⟨rfl, rfl, Nat.le_of_ble_eq_true rfl⟩ rfl rfl (c_show (dd := d) (hd := by omega) (hW := hW169) (s := p) (vi := was) (e_vi := show G165 29 = was from ((hF170.1 29 rfl).trans ((hF132.1 29 rfl).trans ((hF109.1 29 rfl).trans (hF90.1 29 rfl)))))  (h_s := ⟨(Int.le_trans (by decide : (-2147483648 : Int) ≤ -2147483648) rx_p.1), (Int.le_trans rx_p.2 (by decide : (2147483647 : Int) ≤ 2147483647))⟩)  (p_0 := by omega) (p_1 := by omega)) (fun o V' hq => ?_)
                    obtain ⟨G184, A185, vi2_186, rfl, rfl, hW187, hF188, e189, p190, -⟩ := hq
                    have hF192 := Fr_tr hF174 hF188 (Fr_sub (by decide)) (Fr_sub (by decide))
                    have bvi2_186 : (0 : Int) ≤ vi2_186 ∧ vi2_186 ≤ 202 := e189 ▸ hW187.1 29
                    refine .inl ⟨rfl, ?_⟩
                    refine jx_ld (pc' := 333) (l' := L) (st' := [.ref 66]) rfl (jl_aloadn gL_0) ?_
                    refine jx_ar (pc' := 334) (st' := [.ref 66, .ref 66]) rfl rfl rfl rfl ?_
                    refine jr_get (pc' := 337) (i := 46) (v := .int (i32 (pc0))) rfl rfl (by decide) (rFv_eq (by decide) (show G184 46 = pc0 from ((hF188.1 46 rfl).trans ((hF170.1 46 rfl).trans ((hF132.1 46 rfl).trans ((hF109.1 46 rfl).trans ((hF90.1 46 rfl).trans ((hF25.1 46 rfl).trans (fx_46))))))))) rfl ?_
                    refine jx_ar (pc' := 338) (st' := [.int (i32 (1)), .int (i32 (pc0)), .ref 66]) rfl rfl rfl rfl ?_
                    refine jx_add (pc' := 339) rfl rfl ?_
                    refine jr_put (pc' := 342) (i := 46) (z := (pc0 + 1)) rfl rfl (by decide) rfl rfl rfl rfl rfl rfl ?_
                    have hW193 : Wk (uG G184 46 ((pc0 + 1))) A185 := Wk_g hW187 (show (0 : Int) ≤ (pc0 + 1) by omega) (show (pc0 + 1) ≤ (24 : Int) by omega)
                    have hF194 := Fr_g (z := (pc0 + 1)) (i := 46) hF192 (by decide)
                    refine jx_rt (v := none) rfl rfl rfl rfl rfl rfl ?_
                    exact ⟨_, _, ln2_167, at2_128, fk2_168, nd2_19, sy2_20, na2_21, vi2_186, A 3 (ln2_167).toNat, (pc0 + 1), rfl, rfl, hW193, hF194, ((hF188.1 9 rfl).trans (e171)), ((hF188.1 10 rfl).trans ((hF170.1 10 rfl).trans (e133))), ((hF188.1 16 rfl).trans (e172)), ((hF188.1 31 rfl).trans ((hF170.1 31 rfl).trans ((hF132.1 31 rfl).trans ((hF109.1 31 rfl).trans ((hF90.1 31 rfl).trans (e31)))))), ((hF188.1 19 rfl).trans ((hF170.1 19 rfl).trans ((hF132.1 19 rfl).trans ((hF109.1 19 rfl).trans ((hF90.1 19 rfl).trans (e32)))))), ((hF188.1 28 rfl).trans ((hF170.1 28 rfl).trans ((hF132.1 28 rfl).trans ((hF109.1 28 rfl).trans ((hF90.1 28 rfl).trans (e33)))))), (e189), (congrFun ((hF188.2 3 rfl).trans ((hF170.2 3 rfl).trans ((hF132.2 3 rfl).trans ((hF109.2 3 rfl).trans ((hF90.2 3 rfl).trans (((congrFun eA78 3).trans (uA_ne (by decide))).trans ((hF25.2 3 rfl).trans (hFx.2 3 rfl)))))))) _), rfl, by omega, by omega, by omega, by omega, by first | exact Or.inl (by omega) | exact Or.inr ((⟨by omega, by omega, by omega, by omega, by omega⟩))⟩
                  · have _q : True := trivial
                    exact at_327p L G165 A166 (p) (ln2_167) (fk2_168) (sy2_20) (na2_21) gL_0 gL_1 hW169 hF174 ((e171)) ((e172)) (((hF170.1 19 rfl).trans ((hF132.1 19 rfl).trans ((hF109.1 19 rfl).trans ((hF90.1 19 rfl).trans (e32)))))) (((hF170.1 28 rfl).trans ((hF132.1 28 rfl).trans ((hF109.1 28 rfl).trans ((hF90.1 28 rfl).trans (e33)))))) (Eq.trans (show G165 29 = was from ((hF170.1 29 rfl).trans ((hF132.1 29 rfl).trans ((hF109.1 29 rfl).trans (hF90.1 29 rfl))))) (by omega)) (((hF170.1 46 rfl).trans ((hF132.1 46 rfl).trans ((hF109.1 46 rfl).trans ((hF90.1 46 rfl).trans ((hF25.1 46 rfl).trans (fx_46))))))) (by omega) (by omega) (by omega) (by omega) (by omega) (by omega) (by omega) (by omega)
              · have _q : True := trivial
                refine jx_vr (pc' := 323) (as := [.int (i32 (0))]) (st := []) rfl rfl rfl rfl ⟨rfl, rfl, Nat.le_of_ble_eq_true rfl⟩ rfl rfl (c_need (dd := d) (hd := by omega) (hW := hW108) (g := 0) (ln := ln2_16) (e_ln := show G103 9 = ln2_16 from ((hF109.1 9 rfl).trans ((hF90.1 9 rfl).trans (e28)))) (le := A 4 (ln2_16).toNat) (e_le := show A104 4 (ln2_16).toNat = A 4 (ln2_16).toNat from (congrFun ((hF109.2 4 rfl).trans ((hF90.2 4 rfl).trans (((congrFun eA78 4).trans (uA_ne (by decide))).trans ((hF25.2 4 rfl).trans (hFx.2 4 rfl))))) _)) (at0 := at2_105) (e_at0 := show G103 10 = at2_105 from (e110)) (fk := fk2_88) (e_fk := show G103 16 = fk2_88 from ((hF109.1 16 rfl).trans (e92))) (tk0 := tk2_106) (e_tk0 := show G103 11 = tk2_106 from (e111))  (h_g := ⟨(by decide), (by decide)⟩)  (p_0 := by omega)) (fun o V' hq => ?_)
                obtain ⟨G195, A196, at2_197, tk2_198, fk2_199, rfl, rfl, hW200, hF201, e202, e203, e204, p205, p206, q207⟩ := hq
                have hF208 := Fr_tr hF118 hF201 (Fr_sub (by decide)) (Fr_sub (by decide))
                have bat2_197 : (0 : Int) ≤ at2_197 ∧ at2_197 ≤ 3002 := e202 ▸ hW200.1 10
                have ztk2_198 := tz_b tk2_198
                have btk2_198 : (0 : Int) ≤ tk2_198 ∧ tk2_198 ≤ 5 := e203 ▸ hW200.1 11
                have bfk2_199 : (0 : Int) ≤ fk2_199 ∧ fk2_199 ≤ 6 := e204 ▸ hW200.1 16
                refine .inl ⟨rfl, ?_⟩
                rcases q207 with ⟨a209, a210, a211, a212⟩ | ⟨a213, a214, a215, a216⟩
                · have _q : True := trivial
                  refine jx_ld (pc' := 324) (l' := L) (st' := [.ref 66]) rfl (jl_aloadn gL_0) ?_
                  refine jx_vr (pc' := 327) (as := []) (st := []) rfl rfl rfl rfl ⟨rfl, rfl, Nat.le_of_ble_eq_true rfl⟩ rfl rfl (c_endLine (dd := d) (hd := by omega) (hW := hW200)  (ln := ln2_16) (e_ln := show G195 9 = ln2_16 from ((hF201.1 9 rfl).trans ((hF109.1 9 rfl).trans ((hF90.1 9 rfl).trans (e28))))) (li := li) (e_li := show G195 3 = li from ((hF201.1 3 rfl).trans ((hF109.1 3 rfl).trans ((hF90.1 3 rfl).trans ((hF25.1 3 rfl).trans ((hFx.1 3 rfl).trans (e_li))))))) (fk := fk2_199) (e_fk := show G195 16 = fk2_199 from (e204)) (tk0 := tk2_198) (e_tk0 := show G195 11 = tk2_198 from (e203))    (p_0 := by omega)) (fun o V' hq => ?_)
                  obtain ⟨G217, A218, ln2_219, fk2_220, rfl, rfl, hW221, hF222, e223, e224, q225⟩ := hq
                  have hF226 := Fr_tr hF208 hF222 (Fr_sub (by decide)) (Fr_sub (by decide))
                  have bln2_219 : (0 : Int) ≤ ln2_219 ∧ ln2_219 ≤ 3000 := e223 ▸ hW221.1 9
                  have bfk2_220 : (0 : Int) ≤ fk2_220 ∧ fk2_220 ≤ 6 := e224 ▸ hW221.1 16
                  refine .inl ⟨rfl, ?_⟩
                  rcases q225 with ⟨a227, a228, a229, a230, a231⟩ | ⟨a232, a233⟩
                  · have _q : True := trivial
                    exfalso
                    omega
                  · have _q : True := trivial
                    exact at_327p L G217 A218 (p) (ln2_219) (fk2_220) (sy2_20) (na2_21) gL_0 gL_1 hW221 hF226 ((e223)) ((e224)) (((hF222.1 19 rfl).trans ((hF201.1 19 rfl).trans ((hF109.1 19 rfl).trans ((hF90.1 19 rfl).trans (e32)))))) (((hF222.1 28 rfl).trans ((hF201.1 28 rfl).trans ((hF109.1 28 rfl).trans ((hF90.1 28 rfl).trans (e33)))))) (Eq.trans (show G217 29 = was from ((hF222.1 29 rfl).trans ((hF201.1 29 rfl).trans ((hF109.1 29 rfl).trans (hF90.1 29 rfl))))) (by omega)) (((hF222.1 46 rfl).trans ((hF201.1 46 rfl).trans ((hF109.1 46 rfl).trans ((hF90.1 46 rfl).trans ((hF25.1 46 rfl).trans (fx_46))))))) (by omega) (by omega) (by omega) (by omega) (by omega) (by omega) (by omega) (by omega)
                · have _q : True := trivial
                  exfalso
                  omega
          · have _q : True := trivial
            refine jx_if_eq (pc' := 309) (tg := 327) rfl rfl rfl (by decide) (by decide) (fun h234 => ?_) (fun h234 => ?_)
            · have _q := h234
              exact at_327p L G85 A86 (p) (ln2_16) (fk2_88) (sy2_20) (na2_21) gL_0 gL_1 hW89 hF94 (((hF90.1 9 rfl).trans (e28))) ((e92)) (((hF90.1 19 rfl).trans (e32))) (((hF90.1 28 rfl).trans (e33))) (Eq.trans (show G85 29 = was from (hF90.1 29 rfl)) (by omega)) (((hF90.1 46 rfl).trans ((hF25.1 46 rfl).trans (fx_46)))) (by omega) (by omega) (by omega) (by omega) (by omega) (by omega) (by omega) (by omega)
            · have _q := h234
              exact absurd h234 (by omega)
      · have _q := h12
        refine jx_ld (pc' := 260) (l' := L) (st' := [.ref 66]) rfl (jl_aloadn gL_0) ?_
        refine jx_ld (pc' := 261) (l' := L) (st' := [.ref 66, .ref 66]) rfl (jl_aloadn gL_0) ?_
        refine jr_get (pc' := 264) (i := 47) (v := .ref 96) rfl rfl (by decide) rfl rfl ?_
        refine jx_ld (pc' := 265) (l' := L) (st' := [.ref 66, .ref 96, .ref 66]) rfl (jl_aloadn gL_0) ?_
        refine jr_get (pc' := 268) (i := 46) (v := .int (i32 (pc0))) rfl rfl (by decide) (rFv_eq (by decide) (show Gx 46 = pc0 from (fx_46))) rfl ?_
        refine jr_ldv (pc' := 269) (i := 29) (m := 25) (z := pc0) (y := pp1) rfl (by decide) rfl (by decide) (Int.le_trans (by decide : (0 : Int) ≤ 0) b_pc0.1) (Int.lt_of_le_of_lt b_pc0.2 (by decide : (24 : Int) < ((25 : Nat) : Int))) rfl (show Ax 29 (pc0).toNat = pp1 from (ex_pp1)) ?_
        refine jx_ld (pc' := 271) (l' := L) (st' := [.int (i32 (kk)), .int (i32 (pp1)), .ref 66]) rfl (jl_iload gL_5) ?_
        refine jx_add (pc' := 272) rfl rfl ?_
        refine jx_vr (pc' := 275) (as := [.int (i32 ((pp1 + kk)))]) (st := []) rfl rfl rfl rfl ⟨rfl, rfl, Nat.le_of_ble_eq_true rfl⟩ rfl rfl (c_show (dd := d) (hd := by omega) (hW := hWx) (s := (pp1 + kk)) (vi := vi1) (e_vi := show Gx 29 = vi1 from (ex_vi1))  (h_s := ⟨(by omega), (by omega)⟩)  (p_0 := by omega) (p_1 := by omega)) (fun o V' hq => ?_)
        obtain ⟨G235, A236, vi2_237, rfl, rfl, hW238, hF239, e240, p241, -⟩ := hq
        have hF243 := Fr_tr hFx hF239 (Fr_sub (by decide)) (Fr_sub (by decide))
        have bvi2_237 : (0 : Int) ≤ vi2_237 ∧ vi2_237 ≤ 202 := e240 ▸ hW238.1 29
        refine .inl ⟨rfl, ?_⟩
        refine jx_inc (pc' := 278) (l' := jSto1 L 5 (.int (i32 ((kk + (1)))))) (x := kk) rfl gL_5 (by decide) rfl rfl ?_
        obtain ⟨L244, eL244⟩ : ∃ q, q = jSto1 L 5 (.int (i32 ((kk + (1))))) := ⟨_, rfl⟩
        rw [← eL244]
        have gL244_0 : jGet L244 0 = some (.ref 66) := eL244 ▸ jg_ne (by decide) gL_0 rfl
        have gL244_1 : jGet L244 1 = some (.int (i32 (p))) := eL244 ▸ jg_ne (by decide) gL_1 rfl
        have gL244_2 : jGet L244 2 = some (.int (i32 (many))) := eL244 ▸ jg_ne (by decide) gL_2 rfl
        have gL244_4 : jGet L244 4 = some (.int (i32 (was))) := eL244 ▸ jg_ne (by decide) gL_4 rfl
        have gL244_5 : jGet L244 5 = some (.int (i32 ((kk + (1))))) := eL244 ▸ jg_eq
        refine jx_go (tg := 253) rfl rfl ?_
        exact ih253 _ (by omega) L244 G235 A236 (p) (many) (was) ((kk + (1))) (ln1) (at1) (fk1) (sy1) (na1) (vi2_237) (pp1) (lf1) rfl gL244_0 gL244_1 gL244_2 gL244_4 gL244_5 hW238 hF243 (((hF239.1 9 rfl).trans (ex_ln1))) (((hF239.1 10 rfl).trans (ex_at1))) (((hF239.1 16 rfl).trans (ex_fk1))) (((hF239.1 19 rfl).trans (ex_sy1))) (((hF239.1 28 rfl).trans (ex_na1))) ((e240)) ((congrFun (hF239.2 29 rfl) _).trans (ex_pp1)) ((congrFun (hF239.2 3 rfl) _).trans (ex_lf1)) (((hF239.1 46 rfl).trans (fx_46))) (((hF239.1 31 rfl).trans (fx_31))) (by omega) (by omega) (by omega) (by omega) (by omega) (by omega) (by omega) (by omega) (by omega) (by omega) (by omega) (by omega) (by omega) (by omega) (by omega) (by omega) (by omega)
  have at_212p : ∀ (L : jL) (Gx : Nat → Int) (Ax : Nat → Nat → Int) (p many at1 fk1 sy1 na1 : Int), jGet L 0 = some (.ref 66) → jGet L 1 = some (.int (i32 p)) → jGet L 2 = some (.int (i32 many)) → Wk Gx Ax → Fr [9, 10, 11, 12, 13, 14, 15, 16, 17, 18, 19, 28, 29, 31, 46] [6, 7, 8, 9, 10, 11, 12, 14, 15, 16, 17, 18, 19, 20, 21, 22, 23, 24, 28, 29, 30, 31] G A Gx Ax → Gx 10 = at1 → Gx 16 = fk1 → Gx 19 = sy1 → Gx 28 = na1 → Gx 9 = ln → Gx 29 = vi → Gx 46 = pc0 → Gx 31 = nd → ((-2147483648 : Int) ≤ p ∧ p ≤ 2147483647) → ((-2147483648 : Int) ≤ many ∧ many ≤ 2147483647) → (1 ≤ fk1) → (at0 ≤ at1) → (at1 ≤ le) → (sy ≤ sy1) → (sy1 ≤ na1 + 2) → (0 ≤ many ∧ many ≤ 6) → (pc0 ≤ 23) → wj X d jm308 (212, L, [], rV c0 c1 Gx Ax T) (fun o V' => ∃ (G' : Nat → Int) (A' : Nat → Nat → Int) (ln2 : Int) (at2 : Int) (fk2 : Int) (nd2 : Int) (sy2 : Int) (na2 : Int) (vi2 : Int) (lf2 : Int) (pc2 : Int), V' = rV c0 c1 G' A' T ∧ o = .inl none ∧ Wk G' A' ∧ Fr [9, 10, 11, 12, 13, 14, 15, 16, 17, 18, 19, 28, 29, 31, 46] [6, 7, 8, 9, 10, 11, 12, 14, 15, 16, 17, 18, 19, 20, 21, 22, 23, 24, 28, 29, 30, 31] G A G' A' ∧ G' 9 = ln2 ∧ G' 10 = at2 ∧ G' 16 = fk2 ∧ G' 31 = nd2 ∧ G' 19 = sy2 ∧ G' 28 = na2 ∧ G' 29 = vi2 ∧ A' 3 (ln2).toNat = lf2 ∧ G' 46 = pc2 ∧ (sy2 ≤ na2 + 2) ∧ (vi2 ≤ sy2) ∧ (ln ≤ ln2) ∧ (ln2 ≤ li) ∧ (((1 ≤ fk2)) ∨ ((fk2 = 0) ∧ (ln < ln2) ∧ (at0 ≤ at2) ∧ (nd2 - nd ≤ 2 * at2 - (2 * at0 - tz tk0)) ∧ (at2 < lf2 ∨ li ≤ ln2)))) := by
    intro L Gx Ax p many at1 fk1 sy1 na1 gL_0 gL_1 gL_2 hWx hFx ex_at1 ex_fk1 ex_sy1 ex_na1 fx_9 fx_29 fx_46 fx_31 rx_p rx_many iv_0 iv_1 iv_2 iv_3 iv_4 iv_5 iv_6
    have b_at1 : (0 : Int) ≤ at1 ∧ at1 ≤ 3002 := ex_at1 ▸ hWx.1 10
    have b_fk1 : (0 : Int) ≤ fk1 ∧ fk1 ≤ 6 := ex_fk1 ▸ hWx.1 16
    have b_sy1 : (0 : Int) ≤ sy1 ∧ sy1 ≤ 202 := ex_sy1 ▸ hWx.1 19
    have b_na1 : (0 : Int) ≤ na1 ∧ na1 ≤ 200 := ex_na1 ▸ hWx.1 28
    refine jx_ld (pc' := 213) (l' := L) (st' := [.ref 66]) rfl (jl_aloadn gL_0) ?_
    refine jr_get (pc' := 216) (i := 48) (v := .ref 97) rfl rfl (by decide) rfl rfl ?_
    refine jx_ld (pc' := 217) (l' := L) (st' := [.ref 66, .ref 97]) rfl (jl_aloadn gL_0) ?_
    refine jr_get (pc' := 220) (i := 46) (v := .int (i32 (pc0))) rfl rfl (by decide) (rFv_eq (by decide) (show Gx 46 = pc0 from (fx_46))) rfl ?_
    refine jx_ld (pc' := 221) (l' := L) (st' := [.int (i32 (many)), .int (i32 (pc0)), .ref 97]) rfl (jl_iloadn gL_2) ?_
    refine jr_st (pc' := 222) (i := 30) (m := 25) (z := pc0) (y := many) rfl (by decide) rfl (by decide) (by omega) (by omega) rfl ?_
    have hW246 : Wk Gx (uA Ax 30 (pc0).toNat (many)) := Wk_a hWx (show (0 : Int) ≤ many by omega) (show many ≤ (6 : Int) by omega)
    have hF247 := Fr_a (z := many) (k := 30) (n := (pc0).toNat) hFx (by decide)
    obtain ⟨A245, eA245⟩ : ∃ q, q = uA Ax 30 (pc0).toNat (many) := ⟨_, rfl⟩
    rw [← eA245]
    rw [← eA245] at hW246 hF247
    have q248 : A245 30 (pc0).toNat = many := by rw [eA245]; exact uA_eq
    refine jx_ld (pc' := 223) (l' := L) (st' := [.ref 66]) rfl (jl_aloadn gL_0) ?_
    refine jx_ld (pc' := 224) (l' := L) (st' := [.ref 66, .ref 66]) rfl (jl_aloadn gL_0) ?_
    refine jx_ar (pc' := 226) (st' := [.int (i32 (41)), .ref 66, .ref 66]) rfl rfl rfl rfl ?_
    have b249 : (0 : Int) ≤ Gx 11 ∧ Gx 11 ≤ 5 := hWx.1 11
    have b250 : (-2147483648 : Int) ≤ Gx 13 ∧ Gx 13 ≤ 2147483647 := hWx.1 13
    refine jx_vr (pc' := 229) (as := [.int (i32 (41))]) (st := [.ref 66]) rfl rfl rfl rfl ⟨rfl, rfl, Nat.le_of_ble_eq_true rfl⟩ rfl rfl (c_is (dd := d) (hd := by omega) (hW := hW246) (k := 41) (tk := Gx 11) (e_tk := show Gx 11 = Gx 11 from rfl) (tn := Gx 13) (e_tn := show Gx 13 = Gx 13 from rfl)  (h_k := ⟨(by decide), (by decide)⟩)  ) (fun o V' hq => ?_)
    obtain ⟨r251, rfl, rfl, b252, q253⟩ := hq
    refine .inr ⟨_, rfl, ?_⟩
    rcases q253 with ⟨rfl, a254, a255, a256⟩ | rfl
    · have _q : True := trivial
      refine jx_vr (pc' := 232) (as := [.int (i32 (1))]) (st := []) rfl rfl rfl rfl ⟨rfl, rfl, Nat.le_of_ble_eq_true rfl⟩ rfl rfl (c_need (dd := d) (hd := by omega) (hW := hW246) (g := 1) (ln := ln) (e_ln := show Gx 9 = ln from (fx_9)) (le := le) (e_le := show A245 4 (ln).toNat = le from (congrFun (((congrFun eA245 4).trans (uA_ne (by decide))).trans (hFx.2 4 rfl)) _).trans (e_le)) (at0 := at1) (e_at0 := show Gx 10 = at1 from (ex_at1)) (fk := fk1) (e_fk := show Gx 16 = fk1 from (ex_fk1)) (tk0 := Gx 11) (e_tk0 := show Gx 11 = Gx 11 from rfl)  (h_g := ⟨(by decide), (by decide)⟩)  (p_0 := by omega)) (fun o V' hq => ?_)
      obtain ⟨G257, A258, at2_259, tk2_260, fk2_261, rfl, rfl, hW262, hF263, e264, e265, e266, p267, p268, q269⟩ := hq
      have hF270 := Fr_tr hF247 hF263 (Fr_sub (by decide)) (Fr_sub (by decide))
      have bat2_259 : (0 : Int) ≤ at2_259 ∧ at2_259 ≤ 3002 := e264 ▸ hW262.1 10
      have ztk2_260 := tz_b tk2_260
      have btk2_260 : (0 : Int) ≤ tk2_260 ∧ tk2_260 ≤ 5 := e265 ▸ hW262.1 11
      have bfk2_261 : (0 : Int) ≤ fk2_261 ∧ fk2_261 ≤ 6 := e266 ▸ hW262.1 16
      refine .inl ⟨rfl, ?_⟩
      rcases q269 with ⟨a271, a272, a273, a274⟩ | ⟨a275, a276, a277, a278⟩
      · have _q : True := trivial
        refine jx_ld (pc' := 233) (l' := L) (st' := [.ref 66]) rfl (jl_aloadn gL_0) ?_
        refine jx_vr (pc' := 236) (as := []) (st := []) rfl rfl rfl rfl ⟨rfl, rfl, Nat.le_of_ble_eq_true rfl⟩ rfl rfl (c_endLine (dd := d) (hd := by omega) (hW := hW262)  (ln := ln) (e_ln := show G257 9 = ln from ((hF263.1 9 rfl).trans (fx_9))) (li := li) (e_li := show G257 3 = li from ((hF263.1 3 rfl).trans ((hFx.1 3 rfl).trans (e_li)))) (fk := fk2_261) (e_fk := show G257 16 = fk2_261 from (e266)) (tk0 := tk2_260) (e_tk0 := show G257 11 = tk2_260 from (e265))    (p_0 := by omega)) (fun o V' hq => ?_)
        obtain ⟨G279, A280, ln2_281, fk2_282, rfl, rfl, hW283, hF284, e285, e286, q287⟩ := hq
        have hF288 := Fr_tr hF270 hF284 (Fr_sub (by decide)) (Fr_sub (by decide))
        have bln2_281 : (0 : Int) ≤ ln2_281 ∧ ln2_281 ≤ 3000 := e285 ▸ hW283.1 9
        have bfk2_282 : (0 : Int) ≤ fk2_282 ∧ fk2_282 ≤ 6 := e286 ▸ hW283.1 16
        refine .inl ⟨rfl, ?_⟩
        rcases q287 with ⟨a289, a290, a291, a292, a293⟩ | ⟨a294, a295⟩
        · have _q : True := trivial
          exfalso
          omega
        · have _q : True := trivial
          refine jx_ld (pc' := 237) (l' := L) (st' := [.ref 66]) rfl (jl_aloadn gL_0) ?_
          refine jx_vr (pc' := 240) (as := []) (st := []) rfl rfl rfl rfl ⟨rfl, rfl, Nat.le_of_ble_eq_true rfl⟩ rfl rfl (c_bad (dd := d) (hd := by omega) (hW := hW283)  (fk := fk2_282) (e_fk := show G279 16 = fk2_282 from (e286))    ) (fun o V' hq => ?_)
          obtain ⟨r296, rfl, rfl, b297, q298⟩ := hq
          refine .inr ⟨_, rfl, ?_⟩
          rcases q298 with ⟨rfl, a299⟩ | ⟨rfl, a300⟩
          · have _q : True := trivial
            refine jx_if_eq (pc' := 243) (tg := 244) rfl rfl rfl (by decide) (by decide) (fun h301 => ?_) (fun h301 => ?_)
            · have _q := h301
              exact absurd h301 (by omega)
            · have _q := h301
              refine jx_rt (v := none) rfl rfl rfl rfl rfl rfl ?_
              exact ⟨_, _, ln2_281, at2_259, fk2_282, nd, sy1, na1, vi, A 3 (ln2_281).toNat, pc0, rfl, rfl, hW283, hF288, (e285), ((hF284.1 10 rfl).trans (e264)), (e286), ((hF284.1 31 rfl).trans ((hF263.1 31 rfl).trans (fx_31))), ((hF284.1 19 rfl).trans ((hF263.1 19 rfl).trans (ex_sy1))), ((hF284.1 28 rfl).trans ((hF263.1 28 rfl).trans (ex_na1))), ((hF284.1 29 rfl).trans ((hF263.1 29 rfl).trans (fx_29))), (congrFun ((hF284.2 3 rfl).trans ((hF263.2 3 rfl).trans (((congrFun eA245 3).trans (uA_ne (by decide))).trans (hFx.2 3 rfl)))) _), ((hF284.1 46 rfl).trans ((hF263.1 46 rfl).trans (fx_46))), by omega, by omega, by omega, by omega, by first | exact Or.inl (by omega) | exact Or.inr ((⟨by omega, by omega, by omega, by omega, by omega⟩))⟩
          · have _q : True := trivial
            exfalso
            omega
      · have _q : True := trivial
        exfalso
        omega
    · have _q : True := trivial
      refine jx_vr (pc' := 232) (as := [.int (i32 (0))]) (st := []) rfl rfl rfl rfl ⟨rfl, rfl, Nat.le_of_ble_eq_true rfl⟩ rfl rfl (c_need (dd := d) (hd := by omega) (hW := hW246) (g := 0) (ln := ln) (e_ln := show Gx 9 = ln from (fx_9)) (le := le) (e_le := show A245 4 (ln).toNat = le from (congrFun (((congrFun eA245 4).trans (uA_ne (by decide))).trans (hFx.2 4 rfl)) _).trans (e_le)) (at0 := at1) (e_at0 := show Gx 10 = at1 from (ex_at1)) (fk := fk1) (e_fk := show Gx 16 = fk1 from (ex_fk1)) (tk0 := Gx 11) (e_tk0 := show Gx 11 = Gx 11 from rfl)  (h_g := ⟨(by decide), (by decide)⟩)  (p_0 := by omega)) (fun o V' hq => ?_)
      obtain ⟨G302, A303, at2_304, tk2_305, fk2_306, rfl, rfl, hW307, hF308, e309, e310, e311, p312, p313, q314⟩ := hq
      have hF315 := Fr_tr hF247 hF308 (Fr_sub (by decide)) (Fr_sub (by decide))
      have bat2_304 : (0 : Int) ≤ at2_304 ∧ at2_304 ≤ 3002 := e309 ▸ hW307.1 10
      have ztk2_305 := tz_b tk2_305
      have btk2_305 : (0 : Int) ≤ tk2_305 ∧ tk2_305 ≤ 5 := e310 ▸ hW307.1 11
      have bfk2_306 : (0 : Int) ≤ fk2_306 ∧ fk2_306 ≤ 6 := e311 ▸ hW307.1 16
      refine .inl ⟨rfl, ?_⟩
      rcases q314 with ⟨a316, a317, a318, a319⟩ | ⟨a320, a321, a322, a323⟩
      · have _q : True := trivial
        refine jx_ld (pc' := 233) (l' := L) (st' := [.ref 66]) rfl (jl_aloadn gL_0) ?_
        refine jx_vr (pc' := 236) (as := []) (st := []) rfl rfl rfl rfl ⟨rfl, rfl, Nat.le_of_ble_eq_true rfl⟩ rfl rfl (c_endLine (dd := d) (hd := by omega) (hW := hW307)  (ln := ln) (e_ln := show G302 9 = ln from ((hF308.1 9 rfl).trans (fx_9))) (li := li) (e_li := show G302 3 = li from ((hF308.1 3 rfl).trans ((hFx.1 3 rfl).trans (e_li)))) (fk := fk2_306) (e_fk := show G302 16 = fk2_306 from (e311)) (tk0 := tk2_305) (e_tk0 := show G302 11 = tk2_305 from (e310))    (p_0 := by omega)) (fun o V' hq => ?_)
        obtain ⟨G324, A325, ln2_326, fk2_327, rfl, rfl, hW328, hF329, e330, e331, q332⟩ := hq
        have hF333 := Fr_tr hF315 hF329 (Fr_sub (by decide)) (Fr_sub (by decide))
        have bln2_326 : (0 : Int) ≤ ln2_326 ∧ ln2_326 ≤ 3000 := e330 ▸ hW328.1 9
        have bfk2_327 : (0 : Int) ≤ fk2_327 ∧ fk2_327 ≤ 6 := e331 ▸ hW328.1 16
        refine .inl ⟨rfl, ?_⟩
        rcases q332 with ⟨a334, a335, a336, a337, a338⟩ | ⟨a339, a340⟩
        · have _q : True := trivial
          exfalso
          omega
        · have _q : True := trivial
          refine jx_ld (pc' := 237) (l' := L) (st' := [.ref 66]) rfl (jl_aloadn gL_0) ?_
          refine jx_vr (pc' := 240) (as := []) (st := []) rfl rfl rfl rfl ⟨rfl, rfl, Nat.le_of_ble_eq_true rfl⟩ rfl rfl (c_bad (dd := d) (hd := by omega) (hW := hW328)  (fk := fk2_327) (e_fk := show G324 16 = fk2_327 from (e331))    ) (fun o V' hq => ?_)
          obtain ⟨r341, rfl, rfl, b342, q343⟩ := hq
          refine .inr ⟨_, rfl, ?_⟩
          rcases q343 with ⟨rfl, a344⟩ | ⟨rfl, a345⟩
          · have _q : True := trivial
            refine jx_if_eq (pc' := 243) (tg := 244) rfl rfl rfl (by decide) (by decide) (fun h346 => ?_) (fun h346 => ?_)
            · have _q := h346
              exact absurd h346 (by omega)
            · have _q := h346
              refine jx_rt (v := none) rfl rfl rfl rfl rfl rfl ?_
              exact ⟨_, _, ln2_326, at2_304, fk2_327, nd, sy1, na1, vi, A 3 (ln2_326).toNat, pc0, rfl, rfl, hW328, hF333, (e330), ((hF329.1 10 rfl).trans (e309)), (e331), ((hF329.1 31 rfl).trans ((hF308.1 31 rfl).trans (fx_31))), ((hF329.1 19 rfl).trans ((hF308.1 19 rfl).trans (ex_sy1))), ((hF329.1 28 rfl).trans ((hF308.1 28 rfl).trans (ex_na1))), ((hF329.1 29 rfl).trans ((hF308.1 29 rfl).trans (fx_29))), (congrFun ((hF329.2 3 rfl).trans ((hF308.2 3 rfl).trans (((congrFun eA245 3).trans (uA_ne (by decide))).trans (hFx.2 3 rfl)))) _), ((hF329.1 46 rfl).trans ((hF308.1 46 rfl).trans (fx_46))), by omega, by omega, by omega, by omega, by first | exact Or.inl (by omega) | exact Or.inr ((⟨by omega, by omega, by omega, by omega, by omega⟩))⟩
          · have _q : True := trivial
            exfalso
            omega
      · have _q : True := trivial
        exfalso
        omega
  have at_146 : ∀ (m : Nat) (L : jL) (Gx : Nat → Int) (Ax : Nat → Nat → Int) (p many more at1 tk1 fk1 sy1 na1 pp1 : Int), (7 - many).toNat = m → jGet L 0 = some (.ref 66) → jGet L 1 = some (.int (i32 p)) → jGet L 2 = some (.int (i32 many)) → jGet L 3 = some (.int (i32 more)) → Wk Gx Ax → Fr [9, 10, 11, 12, 13, 14, 15, 16, 17, 18, 19, 28, 29, 31, 46] [6, 7, 8, 9, 10, 11, 12, 14, 15, 16, 17, 18, 19, 20, 21, 22, 23, 24, 28, 29, 30, 31] G A Gx Ax → Gx 10 = at1 → Gx 11 = tk1 → Gx 16 = fk1 → Gx 19 = sy1 → Gx 28 = na1 → Ax 29 (pc0).toNat = pp1 → Gx 9 = ln → Gx 29 = vi → Gx 46 = pc0 → Gx 31 = nd → ((-2147483648 : Int) ≤ p ∧ p ≤ 2147483647) → ((-2147483648 : Int) ≤ many ∧ many ≤ 2147483647) → ((-2147483648 : Int) ≤ more ∧ more ≤ 2147483647) → (fk1 = 0) → (at0 ≤ at1) → (at1 ≤ le) → (sy1 = sy + 1 + many) → (sy1 ≤ na1 + 2) → (0 ≤ many) → (0 ≤ more ∧ more ≤ 1) → (many + more ≤ 6) → (pp1 = sy + 1) → (p = sy) → (pc0 ≤ 23) → wj X d jm308 (146, L, [], rV c0 c1 Gx Ax T) (fun o V' => ∃ (G' : Nat → Int) (A' : Nat → Nat → Int) (ln2 : Int) (at2 : Int) (fk2 : Int) (nd2 : Int) (sy2 : Int) (na2 : Int) (vi2 : Int) (lf2 : Int) (pc2 : Int), V' = rV c0 c1 G' A' T ∧ o = .inl none ∧ Wk G' A' ∧ Fr [9, 10, 11, 12, 13, 14, 15, 16, 17, 18, 19, 28, 29, 31, 46] [6, 7, 8, 9, 10, 11, 12, 14, 15, 16, 17, 18, 19, 20, 21, 22, 23, 24, 28, 29, 30, 31] G A G' A' ∧ G' 9 = ln2 ∧ G' 10 = at2 ∧ G' 16 = fk2 ∧ G' 31 = nd2 ∧ G' 19 = sy2 ∧ G' 28 = na2 ∧ G' 29 = vi2 ∧ A' 3 (ln2).toNat = lf2 ∧ G' 46 = pc2 ∧ (sy2 ≤ na2 + 2) ∧ (vi2 ≤ sy2) ∧ (ln ≤ ln2) ∧ (ln2 ≤ li) ∧ (((1 ≤ fk2)) ∨ ((fk2 = 0) ∧ (ln < ln2) ∧ (at0 ≤ at2) ∧ (nd2 - nd ≤ 2 * at2 - (2 * at0 - tz tk0)) ∧ (at2 < lf2 ∨ li ≤ ln2)))) := by
    intro m
    induction m using Nat.strongRecOn with
    | ind m ih146 =>
      intro L Gx Ax p many more at1 tk1 fk1 sy1 na1 pp1 hm gL_0 gL_1 gL_2 gL_3 hWx hFx ex_at1 ex_tk1 ex_fk1 ex_sy1 ex_na1 ex_pp1 fx_9 fx_29 fx_46 fx_31 rx_p rx_many rx_more iv_0 iv_1 iv_2 iv_3 iv_4 iv_5 iv_6 iv_7 iv_8 iv_9 iv_10
      have b_at1 : (0 : Int) ≤ at1 ∧ at1 ≤ 3002 := ex_at1 ▸ hWx.1 10
      have z_tk1 := tz_f tk1
      have b_tk1 : (0 : Int) ≤ tk1 ∧ tk1 ≤ 5 := ex_tk1 ▸ hWx.1 11
      have b_fk1 : (0 : Int) ≤ fk1 ∧ fk1 ≤ 6 := ex_fk1 ▸ hWx.1 16
      have b_sy1 : (0 : Int) ≤ sy1 ∧ sy1 ≤ 202 := ex_sy1 ▸ hWx.1 19
      have b_na1 : (0 : Int) ≤ na1 ∧ na1 ≤ 200 := ex_na1 ▸ hWx.1 28
      refine jx_ld (pc' := 147) (l' := L) (st' := [.ref 66]) rfl (jl_aloadn gL_0) ?_
      refine jx_vr (pc' := 150) (as := []) (st := []) rfl rfl rfl rfl ⟨rfl, rfl, Nat.le_of_ble_eq_true rfl⟩ rfl rfl (c_bad (dd := d) (hd := by omega) (hW := hWx)  (fk := fk1) (e_fk := show Gx 16 = fk1 from (ex_fk1))    ) (fun o V' hq => ?_)
      obtain ⟨r347, rfl, rfl, b348, q349⟩ := hq
      refine .inr ⟨_, rfl, ?_⟩
      rcases q349 with ⟨rfl, a350⟩ | ⟨rfl, a351⟩
      · have _q : True := trivial
        exfalso
        omega
      · have _q : True := trivial
        refine jx_if_ne (pc' := 153) (tg := 212) rfl rfl rfl (by decide) (by decide) (fun h352 => ?_) (fun h352 => ?_)
        · have _q := h352
          exact absurd h352 (by omega)
        · have _q := h352
          refine jx_ld (pc' := 154) (l' := L) (st' := [.int (i32 (more))]) rfl (jl_iloadn gL_3) ?_
          refine jx_if_eq (pc' := 157) (tg := 212) rfl rfl rfl (Int.le_trans (by decide : (-2147483648 : Int) ≤ -2147483648) rx_more.1) (Int.le_trans rx_more.2 (by decide : (2147483647 : Int) ≤ 2147483647)) (fun h353 => ?_) (fun h353 => ?_)
          · have _q := h353
            refine jx_ld (pc' := 213) (l' := L) (st' := [.ref 66]) rfl (jl_aloadn gL_0) ?_
            refine jr_get (pc' := 216) (i := 48) (v := .ref 97) rfl rfl (by decide) rfl rfl ?_
            refine jx_ld (pc' := 217) (l' := L) (st' := [.ref 66, .ref 97]) rfl (jl_aloadn gL_0) ?_
            refine jr_get (pc' := 220) (i := 46) (v := .int (i32 (pc0))) rfl rfl (by decide) (rFv_eq (by decide) (show Gx 46 = pc0 from (fx_46))) rfl ?_
            refine jx_ld (pc' := 221) (l' := L) (st' := [.int (i32 (many)), .int (i32 (pc0)), .ref 97]) rfl (jl_iloadn gL_2) ?_
            refine jr_st (pc' := 222) (i := 30) (m := 25) (z := pc0) (y := many) rfl (by decide) rfl (by decide) (by omega) (by omega) rfl ?_
            have hW355 : Wk Gx (uA Ax 30 (pc0).toNat (many)) := Wk_a hWx (show (0 : Int) ≤ many by omega) (show many ≤ (6 : Int) by omega)
            have hF356 := Fr_a (z := many) (k := 30) (n := (pc0).toNat) hFx (by decide)
            obtain ⟨A354, eA354⟩ : ∃ q, q = uA Ax 30 (pc0).toNat (many) := ⟨_, rfl⟩
            rw [← eA354]
            rw [← eA354] at hW355 hF356
            have q357 : A354 30 (pc0).toNat = many := by rw [eA354]; exact uA_eq
            refine jx_ld (pc' := 223) (l' := L) (st' := [.ref 66]) rfl (jl_aloadn gL_0) ?_
            refine jx_ld (pc' := 224) (l' := L) (st' := [.ref 66, .ref 66]) rfl (jl_aloadn gL_0) ?_
            refine jx_ar (pc' := 226) (st' := [.int (i32 (41)), .ref 66, .ref 66]) rfl rfl rfl rfl ?_
            have b358 : (-2147483648 : Int) ≤ Gx 13 ∧ Gx 13 ≤ 2147483647 := hWx.1 13
            refine jx_vr (pc' := 229) (as := [.int (i32 (41))]) (st := [.ref 66]) rfl rfl rfl rfl ⟨rfl, rfl, Nat.le_of_ble_eq_true rfl⟩ rfl rfl (c_is (dd := d) (hd := by omega) (hW := hW355) (k := 41) (tk := tk1) (e_tk := show Gx 11 = tk1 from (ex_tk1)) (tn := Gx 13) (e_tn := show Gx 13 = Gx 13 from rfl)  (h_k := ⟨(by decide), (by decide)⟩)  ) (fun o V' hq => ?_)
            obtain ⟨r359, rfl, rfl, b360, q361⟩ := hq
            refine .inr ⟨_, rfl, ?_⟩
            rcases q361 with ⟨rfl, a362, a363, a364⟩ | rfl
            · have _q : True := trivial
              refine jx_vr (pc' := 232) (as := [.int (i32 (1))]) (st := []) rfl rfl rfl rfl ⟨rfl, rfl, Nat.le_of_ble_eq_true rfl⟩ rfl rfl (c_need (dd := d) (hd := by omega) (hW := hW355) (g := 1) (ln := ln) (e_ln := show Gx 9 = ln from (fx_9)) (le := le) (e_le := show A354 4 (ln).toNat = le from (congrFun (((congrFun eA354 4).trans (uA_ne (by decide))).trans (hFx.2 4 rfl)) _).trans (e_le)) (at0 := at1) (e_at0 := show Gx 10 = at1 from (ex_at1)) (fk := fk1) (e_fk := show Gx 16 = fk1 from (ex_fk1)) (tk0 := tk1) (e_tk0 := show Gx 11 = tk1 from (ex_tk1))  (h_g := ⟨(by decide), (by decide)⟩)  (p_0 := by omega)) (fun o V' hq => ?_)
              obtain ⟨G365, A366, at2_367, tk2_368, fk2_369, rfl, rfl, hW370, hF371, e372, e373, e374, p375, p376, q377⟩ := hq
              have hF378 := Fr_tr hF356 hF371 (Fr_sub (by decide)) (Fr_sub (by decide))
              have bat2_367 : (0 : Int) ≤ at2_367 ∧ at2_367 ≤ 3002 := e372 ▸ hW370.1 10
              have ztk2_368 := tz_b tk2_368
              have btk2_368 : (0 : Int) ≤ tk2_368 ∧ tk2_368 ≤ 5 := e373 ▸ hW370.1 11
              have bfk2_369 : (0 : Int) ≤ fk2_369 ∧ fk2_369 ≤ 6 := e374 ▸ hW370.1 16
              refine .inl ⟨rfl, ?_⟩
              rcases q377 with ⟨a379, a380, a381, a382⟩ | ⟨a383, a384, a385, a386⟩
              · have _q : True := trivial
                refine jx_ld (pc' := 233) (l' := L) (st' := [.ref 66]) rfl (jl_aloadn gL_0) ?_
                refine jx_vr (pc' := 236) (as := []) (st := []) rfl rfl rfl rfl ⟨rfl, rfl, Nat.le_of_ble_eq_true rfl⟩ rfl rfl (c_endLine (dd := d) (hd := by omega) (hW := hW370)  (ln := ln) (e_ln := show G365 9 = ln from ((hF371.1 9 rfl).trans (fx_9))) (li := li) (e_li := show G365 3 = li from ((hF371.1 3 rfl).trans ((hFx.1 3 rfl).trans (e_li)))) (fk := fk2_369) (e_fk := show G365 16 = fk2_369 from (e374)) (tk0 := tk2_368) (e_tk0 := show G365 11 = tk2_368 from (e373))    (p_0 := by omega)) (fun o V' hq => ?_)
                obtain ⟨G387, A388, ln2_389, fk2_390, rfl, rfl, hW391, hF392, e393, e394, q395⟩ := hq
                have hF396 := Fr_tr hF378 hF392 (Fr_sub (by decide)) (Fr_sub (by decide))
                have bln2_389 : (0 : Int) ≤ ln2_389 ∧ ln2_389 ≤ 3000 := e393 ▸ hW391.1 9
                have bfk2_390 : (0 : Int) ≤ fk2_390 ∧ fk2_390 ≤ 6 := e394 ▸ hW391.1 16
                refine .inl ⟨rfl, ?_⟩
                rcases q395 with ⟨a397, a398, a399, a400, a401⟩ | ⟨a402, a403⟩
                · have _q : True := trivial
                  exfalso
                  omega
                · have _q : True := trivial
                  refine jx_ld (pc' := 237) (l' := L) (st' := [.ref 66]) rfl (jl_aloadn gL_0) ?_
                  refine jx_vr (pc' := 240) (as := []) (st := []) rfl rfl rfl rfl ⟨rfl, rfl, Nat.le_of_ble_eq_true rfl⟩ rfl rfl (c_bad (dd := d) (hd := by omega) (hW := hW391)  (fk := fk2_390) (e_fk := show G387 16 = fk2_390 from (e394))    ) (fun o V' hq => ?_)
                  obtain ⟨r404, rfl, rfl, b405, q406⟩ := hq
                  refine .inr ⟨_, rfl, ?_⟩
                  rcases q406 with ⟨rfl, a407⟩ | ⟨rfl, a408⟩
                  · have _q : True := trivial
                    refine jx_if_eq (pc' := 243) (tg := 244) rfl rfl rfl (by decide) (by decide) (fun h409 => ?_) (fun h409 => ?_)
                    · have _q := h409
                      exact absurd h409 (by omega)
                    · have _q := h409
                      refine jx_rt (v := none) rfl rfl rfl rfl rfl rfl ?_
                      exact ⟨_, _, ln2_389, at2_367, fk2_390, nd, sy1, na1, vi, A 3 (ln2_389).toNat, pc0, rfl, rfl, hW391, hF396, (e393), ((hF392.1 10 rfl).trans (e372)), (e394), ((hF392.1 31 rfl).trans ((hF371.1 31 rfl).trans (fx_31))), ((hF392.1 19 rfl).trans ((hF371.1 19 rfl).trans (ex_sy1))), ((hF392.1 28 rfl).trans ((hF371.1 28 rfl).trans (ex_na1))), ((hF392.1 29 rfl).trans ((hF371.1 29 rfl).trans (fx_29))), (congrFun ((hF392.2 3 rfl).trans ((hF371.2 3 rfl).trans (((congrFun eA354 3).trans (uA_ne (by decide))).trans (hFx.2 3 rfl)))) _), ((hF392.1 46 rfl).trans ((hF371.1 46 rfl).trans (fx_46))), by omega, by omega, by omega, by omega, by first | exact Or.inl (by omega) | exact Or.inr ((⟨by omega, by omega, by omega, by omega, by omega⟩))⟩
                  · have _q : True := trivial
                    exfalso
                    omega
              · have _q : True := trivial
                refine jx_ld (pc' := 233) (l' := L) (st' := [.ref 66]) rfl (jl_aloadn gL_0) ?_
                refine jx_vr (pc' := 236) (as := []) (st := []) rfl rfl rfl rfl ⟨rfl, rfl, Nat.le_of_ble_eq_true rfl⟩ rfl rfl (c_endLine (dd := d) (hd := by omega) (hW := hW370)  (ln := ln) (e_ln := show G365 9 = ln from ((hF371.1 9 rfl).trans (fx_9))) (li := li) (e_li := show G365 3 = li from ((hF371.1 3 rfl).trans ((hFx.1 3 rfl).trans (e_li)))) (fk := fk2_369) (e_fk := show G365 16 = fk2_369 from (e374)) (tk0 := tk2_368) (e_tk0 := show G365 11 = tk2_368 from (e373))    (p_0 := by omega)) (fun o V' hq => ?_)
                obtain ⟨G410, A411, ln2_412, fk2_413, rfl, rfl, hW414, hF415, e416, e417, q418⟩ := hq
                have hF419 := Fr_tr hF378 hF415 (Fr_sub (by decide)) (Fr_sub (by decide))
                have bln2_412 : (0 : Int) ≤ ln2_412 ∧ ln2_412 ≤ 3000 := e416 ▸ hW414.1 9
                have bfk2_413 : (0 : Int) ≤ fk2_413 ∧ fk2_413 ≤ 6 := e417 ▸ hW414.1 16
                refine .inl ⟨rfl, ?_⟩
                rcases q418 with ⟨a420, a421, a422, a423, a424⟩ | ⟨a425, a426⟩
                · have _q : True := trivial
                  have b427 : (0 : Int) ≤ A 3 (ln2_412).toNat ∧ A 3 (ln2_412).toNat ≤ 3000 := hW.2 3 _
                  have lt428 : ln2_412 < li → le < A 3 (ln2_412).toNat := fun hh => LT_nx (LT_ext (((hF415.1 3 rfl).trans ((hF371.1 3 rfl).trans (hFx.1 3 rfl)))) (((hF415.2 3 rfl).trans ((hF371.2 3 rfl).trans (((congrFun eA354 3).trans (uA_ne (by decide))).trans (hFx.2 3 rfl))))) (((hF415.2 4 rfl).trans ((hF371.2 4 rfl).trans (((congrFun eA354 4).trans (uA_ne (by decide))).trans (hFx.2 4 rfl))))) i_LT) (show G410 3 = li from ((hF415.1 3 rfl).trans ((hF371.1 3 rfl).trans ((hFx.1 3 rfl).trans (e_li))))) (show A411 4 (ln).toNat = le from (congrFun ((hF415.2 4 rfl).trans ((hF371.2 4 rfl).trans (((congrFun eA354 4).trans (uA_ne (by decide))).trans (hFx.2 4 rfl)))) _).trans (e_le)) (show A411 3 (ln2_412).toNat = A 3 (ln2_412).toNat from (congrFun ((hF415.2 3 rfl).trans ((hF371.2 3 rfl).trans (((congrFun eA354 3).trans (uA_ne (by decide))).trans (hFx.2 3 rfl)))) _)) (show ln2_412 = ln + 1 by omega) (by omega) hh
                  refine jx_ld (pc' := 237) (l' := L) (st' := [.ref 66]) rfl (jl_aloadn gL_0) ?_
                  refine jx_vr (pc' := 240) (as := []) (st := []) rfl rfl rfl rfl ⟨rfl, rfl, Nat.le_of_ble_eq_true rfl⟩ rfl rfl (c_bad (dd := d) (hd := by omega) (hW := hW414)  (fk := fk2_413) (e_fk := show G410 16 = fk2_413 from (e417))    ) (fun o V' hq => ?_)
                  obtain ⟨r429, rfl, rfl, b430, q431⟩ := hq
                  refine .inr ⟨_, rfl, ?_⟩
                  rcases q431 with ⟨rfl, a432⟩ | ⟨rfl, a433⟩
                  · have _q : True := trivial
                    exfalso
                    omega
                  · have _q : True := trivial
                    refine jx_if_eq (pc' := 243) (tg := 244) rfl rfl rfl (by decide) (by decide) (fun h434 => ?_) (fun h434 => ?_)
                    · have _q := h434
                      refine jx_ld (pc' := 245) (l' := L) (st' := [.ref 66]) rfl (jl_aloadn gL_0) ?_
                      refine jr_get (pc' := 248) (i := 29) (v := .int (i32 (vi))) rfl rfl (by decide) (rFv_eq (by decide) (show G410 29 = vi from ((hF415.1 29 rfl).trans ((hF371.1 29 rfl).trans (fx_29))))) rfl ?_
                      refine jx_ld (pc' := 250) (l' := jSto1 L 4 (.int (i32 (vi)))) (st' := []) rfl rfl ?_
                      obtain ⟨L435, eL435⟩ : ∃ q, q = jSto1 L 4 (.int (i32 (vi))) := ⟨_, rfl⟩
                      rw [← eL435]
                      have gL435_0 : jGet L435 0 = some (.ref 66) := eL435 ▸ jg_ne (by decide) gL_0 rfl
                      have gL435_1 : jGet L435 1 = some (.int (i32 (p))) := eL435 ▸ jg_ne (by decide) gL_1 rfl
                      have gL435_2 : jGet L435 2 = some (.int (i32 (many))) := eL435 ▸ jg_ne (by decide) gL_2 rfl
                      have gL435_3 : jGet L435 3 = some (.int (i32 (more))) := eL435 ▸ jg_ne (by decide) gL_3 rfl
                      have gL435_4 : jGet L435 4 = some (.int (i32 (vi))) := eL435 ▸ jg_eq
                      refine jx_ar (pc' := 251) (st' := [.int (i32 (0))]) rfl rfl rfl rfl ?_
                      refine jx_ld (pc' := 253) (l' := jSto1 L435 5 (.int (i32 (0)))) (st' := []) rfl rfl ?_
                      obtain ⟨L436, eL436⟩ : ∃ q, q = jSto1 L435 5 (.int (i32 (0))) := ⟨_, rfl⟩
                      rw [← eL436]
                      have gL436_0 : jGet L436 0 = some (.ref 66) := eL436 ▸ jg_ne (by decide) gL435_0 rfl
                      have gL436_1 : jGet L436 1 = some (.int (i32 (p))) := eL436 ▸ jg_ne (by decide) gL435_1 rfl
                      have gL436_2 : jGet L436 2 = some (.int (i32 (many))) := eL436 ▸ jg_ne (by decide) gL435_2 rfl
                      have gL436_3 : jGet L436 3 = some (.int (i32 (more))) := eL436 ▸ jg_ne (by decide) gL435_3 rfl
                      have gL436_4 : jGet L436 4 = some (.int (i32 (vi))) := eL436 ▸ jg_ne (by decide) gL435_4 rfl
                      have gL436_5 : jGet L436 5 = some (.int (i32 (0))) := eL436 ▸ jg_eq
                      exact at_253 _ L436 G410 A411 (p) (many) (vi) (0) (ln2_412) (at2_367) (fk2_413) (sy1) (na1) (vi) (pp1) (A 3 (ln2_412).toNat) rfl gL436_0 gL436_1 gL436_2 gL436_4 gL436_5 hW414 hF419 ((e416)) (((hF415.1 10 rfl).trans (e372))) ((e417)) (((hF415.1 19 rfl).trans ((hF371.1 19 rfl).trans (ex_sy1)))) (((hF415.1 28 rfl).trans ((hF371.1 28 rfl).trans (ex_na1)))) (((hF415.1 29 rfl).trans ((hF371.1 29 rfl).trans (fx_29)))) ((congrFun ((hF415.2 29 rfl).trans ((hF371.2 29 rfl).trans ((congrFun eA354 29).trans (uA_ne (by decide))))) _).trans (ex_pp1)) ((congrFun ((hF415.2 3 rfl).trans ((hF371.2 3 rfl).trans (((congrFun eA354 3).trans (uA_ne (by decide))).trans (hFx.2 3 rfl)))) _)) (((hF415.1 46 rfl).trans ((hF371.1 46 rfl).trans (fx_46)))) (((hF415.1 31 rfl).trans ((hF371.1 31 rfl).trans (fx_31)))) (by omega) (by omega) (by omega) (by omega) (by omega) (by omega) (by omega) (by omega) (by omega) (by omega) (by omega) (by omega) (by omega) (by omega) (by omega) (by omega) (by omega)
                    · have _q := h434
                      exact absurd h434 (by omega)
                · have _q : True := trivial
                  refine jx_ld (pc' := 237) (l' := L) (st' := [.ref 66]) rfl (jl_aloadn gL_0) ?_
                  refine jx_vr (pc' := 240) (as := []) (st := []) rfl rfl rfl rfl ⟨rfl, rfl, Nat.le_of_ble_eq_true rfl⟩ rfl rfl (c_bad (dd := d) (hd := by omega) (hW := hW414)  (fk := fk2_413) (e_fk := show G410 16 = fk2_413 from (e417))    ) (fun o V' hq => ?_)
                  obtain ⟨r437, rfl, rfl, b438, q439⟩ := hq
                  refine .inr ⟨_, rfl, ?_⟩
                  rcases q439 with ⟨rfl, a440⟩ | ⟨rfl, a441⟩
                  · have _q : True := trivial
                    refine jx_if_eq (pc' := 243) (tg := 244) rfl rfl rfl (by decide) (by decide) (fun h442 => ?_) (fun h442 => ?_)
                    · have _q := h442
                      exact absurd h442 (by omega)
                    · have _q := h442
                      refine jx_rt (v := none) rfl rfl rfl rfl rfl rfl ?_
                      exact ⟨_, _, ln2_412, at2_367, fk2_413, nd, sy1, na1, vi, A 3 (ln2_412).toNat, pc0, rfl, rfl, hW414, hF419, (e416), ((hF415.1 10 rfl).trans (e372)), (e417), ((hF415.1 31 rfl).trans ((hF371.1 31 rfl).trans (fx_31))), ((hF415.1 19 rfl).trans ((hF371.1 19 rfl).trans (ex_sy1))), ((hF415.1 28 rfl).trans ((hF371.1 28 rfl).trans (ex_na1))), ((hF415.1 29 rfl).trans ((hF371.1 29 rfl).trans (fx_29))), (congrFun ((hF415.2 3 rfl).trans ((hF371.2 3 rfl).trans (((congrFun eA354 3).trans (uA_ne (by decide))).trans (hFx.2 3 rfl)))) _), ((hF415.1 46 rfl).trans ((hF371.1 46 rfl).trans (fx_46))), by omega, by omega, by omega, by omega, by first | exact Or.inl (by omega) | exact Or.inr ((⟨by omega, by omega, by omega, by omega, by omega⟩))⟩
                  · have _q : True := trivial
                    exfalso
                    omega
            · have _q : True := trivial
              refine jx_vr (pc' := 232) (as := [.int (i32 (0))]) (st := []) rfl rfl rfl rfl ⟨rfl, rfl, Nat.le_of_ble_eq_true rfl⟩ rfl rfl (c_need (dd := d) (hd := by omega) (hW := hW355) (g := 0) (ln := ln) (e_ln := show Gx 9 = ln from (fx_9)) (le := le) (e_le := show A354 4 (ln).toNat = le from (congrFun (((congrFun eA354 4).trans (uA_ne (by decide))).trans (hFx.2 4 rfl)) _).trans (e_le)) (at0 := at1) (e_at0 := show Gx 10 = at1 from (ex_at1)) (fk := fk1) (e_fk := show Gx 16 = fk1 from (ex_fk1)) (tk0 := tk1) (e_tk0 := show Gx 11 = tk1 from (ex_tk1))  (h_g := ⟨(by decide), (by decide)⟩)  (p_0 := by omega)) (fun o V' hq => ?_)
              obtain ⟨G443, A444, at2_445, tk2_446, fk2_447, rfl, rfl, hW448, hF449, e450, e451, e452, p453, p454, q455⟩ := hq
              have hF456 := Fr_tr hF356 hF449 (Fr_sub (by decide)) (Fr_sub (by decide))
              have bat2_445 : (0 : Int) ≤ at2_445 ∧ at2_445 ≤ 3002 := e450 ▸ hW448.1 10
              have ztk2_446 := tz_b tk2_446
              have btk2_446 : (0 : Int) ≤ tk2_446 ∧ tk2_446 ≤ 5 := e451 ▸ hW448.1 11
              have bfk2_447 : (0 : Int) ≤ fk2_447 ∧ fk2_447 ≤ 6 := e452 ▸ hW448.1 16
              refine .inl ⟨rfl, ?_⟩
              rcases q455 with ⟨a457, a458, a459, a460⟩ | ⟨a461, a462, a463, a464⟩
              · have _q : True := trivial
                refine jx_ld (pc' := 233) (l' := L) (st' := [.ref 66]) rfl (jl_aloadn gL_0) ?_
                refine jx_vr (pc' := 236) (as := []) (st := []) rfl rfl rfl rfl ⟨rfl, rfl, Nat.le_of_ble_eq_true rfl⟩ rfl rfl (c_endLine (dd := d) (hd := by omega) (hW := hW448)  (ln := ln) (e_ln := show G443 9 = ln from ((hF449.1 9 rfl).trans (fx_9))) (li := li) (e_li := show G443 3 = li from ((hF449.1 3 rfl).trans ((hFx.1 3 rfl).trans (e_li)))) (fk := fk2_447) (e_fk := show G443 16 = fk2_447 from (e452)) (tk0 := tk2_446) (e_tk0 := show G443 11 = tk2_446 from (e451))    (p_0 := by omega)) (fun o V' hq => ?_)
                obtain ⟨G465, A466, ln2_467, fk2_468, rfl, rfl, hW469, hF470, e471, e472, q473⟩ := hq
                have hF474 := Fr_tr hF456 hF470 (Fr_sub (by decide)) (Fr_sub (by decide))
                have bln2_467 : (0 : Int) ≤ ln2_467 ∧ ln2_467 ≤ 3000 := e471 ▸ hW469.1 9
                have bfk2_468 : (0 : Int) ≤ fk2_468 ∧ fk2_468 ≤ 6 := e472 ▸ hW469.1 16
                refine .inl ⟨rfl, ?_⟩
                rcases q473 with ⟨a475, a476, a477, a478, a479⟩ | ⟨a480, a481⟩
                · have _q : True := trivial
                  exfalso
                  omega
                · have _q : True := trivial
                  refine jx_ld (pc' := 237) (l' := L) (st' := [.ref 66]) rfl (jl_aloadn gL_0) ?_
                  refine jx_vr (pc' := 240) (as := []) (st := []) rfl rfl rfl rfl ⟨rfl, rfl, Nat.le_of_ble_eq_true rfl⟩ rfl rfl (c_bad (dd := d) (hd := by omega) (hW := hW469)  (fk := fk2_468) (e_fk := show G465 16 = fk2_468 from (e472))    ) (fun o V' hq => ?_)
                  obtain ⟨r482, rfl, rfl, b483, q484⟩ := hq
                  refine .inr ⟨_, rfl, ?_⟩
                  rcases q484 with ⟨rfl, a485⟩ | ⟨rfl, a486⟩
                  · have _q : True := trivial
                    refine jx_if_eq (pc' := 243) (tg := 244) rfl rfl rfl (by decide) (by decide) (fun h487 => ?_) (fun h487 => ?_)
                    · have _q := h487
                      exact absurd h487 (by omega)
                    · have _q := h487
                      refine jx_rt (v := none) rfl rfl rfl rfl rfl rfl ?_
                      exact ⟨_, _, ln2_467, at2_445, fk2_468, nd, sy1, na1, vi, A 3 (ln2_467).toNat, pc0, rfl, rfl, hW469, hF474, (e471), ((hF470.1 10 rfl).trans (e450)), (e472), ((hF470.1 31 rfl).trans ((hF449.1 31 rfl).trans (fx_31))), ((hF470.1 19 rfl).trans ((hF449.1 19 rfl).trans (ex_sy1))), ((hF470.1 28 rfl).trans ((hF449.1 28 rfl).trans (ex_na1))), ((hF470.1 29 rfl).trans ((hF449.1 29 rfl).trans (fx_29))), (congrFun ((hF470.2 3 rfl).trans ((hF449.2 3 rfl).trans (((congrFun eA354 3).trans (uA_ne (by decide))).trans (hFx.2 3 rfl)))) _), ((hF470.1 46 rfl).trans ((hF449.1 46 rfl).trans (fx_46))), by omega, by omega, by omega, by omega, by first | exact Or.inl (by omega) | exact Or.inr ((⟨by omega, by omega, by omega, by omega, by omega⟩))⟩
                  · have _q : True := trivial
                    exfalso
                    omega
              · have _q : True := trivial
                exfalso
                omega
          · have _q := h353
            refine jx_ld (pc' := 158) (l' := L) (st' := [.ref 66]) rfl (jl_aloadn gL_0) ?_
            refine jx_ld (pc' := 159) (l' := L) (st' := [.ref 66, .ref 66]) rfl (jl_aloadn gL_0) ?_
            refine jr_get (pc' := 162) (i := 47) (v := .ref 96) rfl rfl (by decide) rfl rfl ?_
            refine jx_ld (pc' := 163) (l' := L) (st' := [.ref 66, .ref 96, .ref 66]) rfl (jl_aloadn gL_0) ?_
            refine jr_get (pc' := 166) (i := 46) (v := .int (i32 (pc0))) rfl rfl (by decide) (rFv_eq (by decide) (show Gx 46 = pc0 from (fx_46))) rfl ?_
            refine jr_ldv (pc' := 167) (i := 29) (m := 25) (z := pc0) (y := pp1) rfl (by decide) rfl (by decide) (Int.le_trans (by decide : (0 : Int) ≤ 0) b_pc0.1) (Int.lt_of_le_of_lt b_pc0.2 (by decide : (24 : Int) < ((25 : Nat) : Int))) rfl (show Ax 29 (pc0).toNat = pp1 from (ex_pp1)) ?_
            refine jx_vr (pc' := 170) (as := [.int (i32 (pp1))]) (st := []) rfl rfl rfl rfl ⟨rfl, rfl, Nat.le_of_ble_eq_true rfl⟩ rfl rfl (c_readParameter (dd := d) (hd := by omega) (hW := hWx) (fr := pp1) (ln := ln) (e_ln := show Gx 9 = ln from (fx_9)) (le := le) (e_le := show Ax 4 (ln).toNat = le from (congrFun (hFx.2 4 rfl) _).trans (e_le)) (at0 := at1) (e_at0 := show Gx 10 = at1 from (ex_at1)) (fk := fk1) (e_fk := show Gx 16 = fk1 from (ex_fk1)) (tk0 := tk1) (e_tk0 := show Gx 11 = tk1 from (ex_tk1)) (sy := sy1) (e_sy := show Gx 19 = sy1 from (ex_sy1)) (na := na1) (e_na := show Gx 28 = na1 from (ex_na1))  (h_fr := ⟨(by omega), (by omega)⟩)  (p_0 := by omega) (p_1 := by omega) (p_2 := by omega) (p_3 := by omega)) (fun o V' hq => ?_)
            obtain ⟨G488, A489, at2_490, fk2_491, sy2_492, na2_493, rfl, rfl, hW494, hF495, e496, e497, e498, e499, p500, p501, p502, p503, q504⟩ := hq
            have hF505 := Fr_tr hFx hF495 (Fr_sub (by decide)) (Fr_sub (by decide))
            have bat2_490 : (0 : Int) ≤ at2_490 ∧ at2_490 ≤ 3002 := e496 ▸ hW494.1 10
            have bfk2_491 : (0 : Int) ≤ fk2_491 ∧ fk2_491 ≤ 6 := e497 ▸ hW494.1 16
            have bsy2_492 : (0 : Int) ≤ sy2_492 ∧ sy2_492 ≤ 202 := e498 ▸ hW494.1 19
            have bna2_493 : (0 : Int) ≤ na2_493 ∧ na2_493 ≤ 200 := e499 ▸ hW494.1 28
            refine .inl ⟨rfl, ?_⟩
            rcases q504 with a506 | ⟨a507, a508⟩
            · have _q : True := trivial
              refine jx_inc (pc' := 173) (l' := jSto1 L 2 (.int (i32 ((many + (1)))))) (x := many) rfl gL_2 (by decide) rfl rfl ?_
              obtain ⟨L509, eL509⟩ : ∃ q, q = jSto1 L 2 (.int (i32 ((many + (1))))) := ⟨_, rfl⟩
              rw [← eL509]
              have gL509_0 : jGet L509 0 = some (.ref 66) := eL509 ▸ jg_ne (by decide) gL_0 rfl
              have gL509_1 : jGet L509 1 = some (.int (i32 (p))) := eL509 ▸ jg_ne (by decide) gL_1 rfl
              have gL509_3 : jGet L509 3 = some (.int (i32 (more))) := eL509 ▸ jg_ne (by decide) gL_3 rfl
              have gL509_2 : jGet L509 2 = some (.int (i32 ((many + (1))))) := eL509 ▸ jg_eq
              refine jx_ld (pc' := 174) (l' := L509) (st' := [.ref 66]) rfl (jl_aloadn gL509_0) ?_
              refine jx_vr (pc' := 177) (as := []) (st := []) rfl rfl rfl rfl ⟨rfl, rfl, Nat.le_of_ble_eq_true rfl⟩ rfl rfl (c_bad (dd := d) (hd := by omega) (hW := hW494)  (fk := fk2_491) (e_fk := show G488 16 = fk2_491 from (e497))    ) (fun o V' hq => ?_)
              obtain ⟨r510, rfl, rfl, b511, q512⟩ := hq
              refine .inr ⟨_, rfl, ?_⟩
              rcases q512 with ⟨rfl, a513⟩ | ⟨rfl, a514⟩
              · have _q : True := trivial
                refine jx_if_ne (pc' := 180) (tg := 199) rfl rfl rfl (by decide) (by decide) (fun h515 => ?_) (fun h515 => ?_)
                · have _q := h515
                  refine jx_ar (pc' := 200) (st' := [.int (i32 (0))]) rfl rfl rfl rfl ?_
                  refine jx_ld (pc' := 201) (l' := jSto1 L509 3 (.int (i32 (0)))) (st' := []) rfl rfl ?_
                  obtain ⟨L516, eL516⟩ : ∃ q, q = jSto1 L509 3 (.int (i32 (0))) := ⟨_, rfl⟩
                  rw [← eL516]
                  have gL516_0 : jGet L516 0 = some (.ref 66) := eL516 ▸ jg_ne (by decide) gL509_0 rfl
                  have gL516_1 : jGet L516 1 = some (.int (i32 (p))) := eL516 ▸ jg_ne (by decide) gL509_1 rfl
                  have gL516_2 : jGet L516 2 = some (.int (i32 ((many + (1))))) := eL516 ▸ jg_ne (by decide) gL509_2 rfl
                  have gL516_3 : jGet L516 3 = some (.int (i32 (0))) := eL516 ▸ jg_eq
                  refine jx_ld (pc' := 202) (l' := L516) (st' := [.int (i32 (0))]) rfl (jl_iloadn gL516_3) ?_
                  refine jx_if_eq (pc' := 205) (tg := 146) rfl rfl rfl (by decide) (by decide) (fun h517 => ?_) (fun h517 => ?_)
                  · have _q := h517
                    refine jx_ld (pc' := 147) (l' := L516) (st' := [.ref 66]) rfl (jl_aloadn gL516_0) ?_
                    refine jx_vr (pc' := 150) (as := []) (st := []) rfl rfl rfl rfl ⟨rfl, rfl, Nat.le_of_ble_eq_true rfl⟩ rfl rfl (c_bad (dd := d) (hd := by omega) (hW := hW494)  (fk := fk2_491) (e_fk := show G488 16 = fk2_491 from (e497))    ) (fun o V' hq => ?_)
                    obtain ⟨r518, rfl, rfl, b519, q520⟩ := hq
                    refine .inr ⟨_, rfl, ?_⟩
                    rcases q520 with ⟨rfl, a521⟩ | ⟨rfl, a522⟩
                    · have _q : True := trivial
                      refine jx_if_ne (pc' := 153) (tg := 212) rfl rfl rfl (by decide) (by decide) (fun h523 => ?_) (fun h523 => ?_)
                      · have _q := h523
                        exact at_212p L516 G488 A489 (p) ((many + (1))) (at2_490) (fk2_491) (sy2_492) (na2_493) gL516_0 gL516_1 gL516_2 hW494 hF505 ((e496)) ((e497)) ((e498)) ((e499)) (((hF495.1 9 rfl).trans (fx_9))) (((hF495.1 29 rfl).trans (fx_29))) (((hF495.1 46 rfl).trans (fx_46))) (((hF495.1 31 rfl).trans (fx_31))) (by omega) (by omega) (by omega) (by omega) (by omega) (by omega) (by omega) (by omega) (by omega)
                      · have _q := h523
                        exact absurd h523 (by omega)
                    · have _q : True := trivial
                      exfalso
                      omega
                  · have _q := h517
                    exact absurd h517 (by omega)
                · have _q := h515
                  exact absurd h515 (by omega)
              · have _q : True := trivial
                exfalso
                omega
            · have _q : True := trivial
              refine jx_inc (pc' := 173) (l' := jSto1 L 2 (.int (i32 ((many + (1)))))) (x := many) rfl gL_2 (by decide) rfl rfl ?_
              obtain ⟨L524, eL524⟩ : ∃ q, q = jSto1 L 2 (.int (i32 ((many + (1))))) := ⟨_, rfl⟩
              rw [← eL524]
              have gL524_0 : jGet L524 0 = some (.ref 66) := eL524 ▸ jg_ne (by decide) gL_0 rfl
              have gL524_1 : jGet L524 1 = some (.int (i32 (p))) := eL524 ▸ jg_ne (by decide) gL_1 rfl
              have gL524_3 : jGet L524 3 = some (.int (i32 (more))) := eL524 ▸ jg_ne (by decide) gL_3 rfl
              have gL524_2 : jGet L524 2 = some (.int (i32 ((many + (1))))) := eL524 ▸ jg_eq
              refine jx_ld (pc' := 174) (l' := L524) (st' := [.ref 66]) rfl (jl_aloadn gL524_0) ?_
              refine jx_vr (pc' := 177) (as := []) (st := []) rfl rfl rfl rfl ⟨rfl, rfl, Nat.le_of_ble_eq_true rfl⟩ rfl rfl (c_bad (dd := d) (hd := by omega) (hW := hW494)  (fk := fk2_491) (e_fk := show G488 16 = fk2_491 from (e497))    ) (fun o V' hq => ?_)
              obtain ⟨r525, rfl, rfl, b526, q527⟩ := hq
              refine .inr ⟨_, rfl, ?_⟩
              rcases q527 with ⟨rfl, a528⟩ | ⟨rfl, a529⟩
              · have _q : True := trivial
                exfalso
                omega
              · have _q : True := trivial
                refine jx_if_ne (pc' := 180) (tg := 199) rfl rfl rfl (by decide) (by decide) (fun h530 => ?_) (fun h530 => ?_)
                · have _q := h530
                  exact absurd h530 (by omega)
                · have _q := h530
                  refine jx_ld (pc' := 181) (l' := L524) (st' := [.ref 66]) rfl (jl_aloadn gL524_0) ?_
                  refine jx_ar (pc' := 183) (st' := [.int (i32 (44)), .ref 66]) rfl rfl rfl rfl ?_
                  have b531 : (0 : Int) ≤ G488 11 ∧ G488 11 ≤ 5 := hW494.1 11
                  have b532 : (-2147483648 : Int) ≤ G488 13 ∧ G488 13 ≤ 2147483647 := hW494.1 13
                  refine jx_vr (pc' := 186) (as := [.int (i32 (44))]) (st := []) rfl rfl rfl rfl ⟨rfl, rfl, Nat.le_of_ble_eq_true rfl⟩ rfl rfl (c_is (dd := d) (hd := by omega) (hW := hW494) (k := 44) (tk := G488 11) (e_tk := show G488 11 = G488 11 from rfl) (tn := G488 13) (e_tn := show G488 13 = G488 13 from rfl)  (h_k := ⟨(by decide), (by decide)⟩)  ) (fun o V' hq => ?_)
                  obtain ⟨r533, rfl, rfl, b534, q535⟩ := hq
                  refine .inr ⟨_, rfl, ?_⟩
                  rcases q535 with ⟨rfl, a536, a537, a538⟩ | rfl
                  · have _q : True := trivial
                    refine jx_if_eq (pc' := 189) (tg := 199) rfl rfl rfl (by decide) (by decide) (fun h539 => ?_) (fun h539 => ?_)
                    · have _q := h539
                      exact absurd h539 (by omega)
                    · have _q := h539
                      refine jx_ld (pc' := 190) (l' := L524) (st' := [.int (i32 ((many + (1))))]) rfl (jl_iloadn gL524_2) ?_
                      refine jx_ar (pc' := 192) (st' := [.int (i32 (6)), .int (i32 ((many + (1))))]) rfl rfl rfl rfl ?_
                      refine jx_icmp_ge (pc' := 195) (tg := 199) rfl rfl rfl (by omega) (by omega) (by decide) (by decide) (fun h540 => ?_) (fun h540 => ?_)
                      · have _q := h540
                        refine jx_ar (pc' := 200) (st' := [.int (i32 (0))]) rfl rfl rfl rfl ?_
                        refine jx_ld (pc' := 201) (l' := jSto1 L524 3 (.int (i32 (0)))) (st' := []) rfl rfl ?_
                        obtain ⟨L541, eL541⟩ : ∃ q, q = jSto1 L524 3 (.int (i32 (0))) := ⟨_, rfl⟩
                        rw [← eL541]
                        have gL541_0 : jGet L541 0 = some (.ref 66) := eL541 ▸ jg_ne (by decide) gL524_0 rfl
                        have gL541_1 : jGet L541 1 = some (.int (i32 (p))) := eL541 ▸ jg_ne (by decide) gL524_1 rfl
                        have gL541_2 : jGet L541 2 = some (.int (i32 ((many + (1))))) := eL541 ▸ jg_ne (by decide) gL524_2 rfl
                        have gL541_3 : jGet L541 3 = some (.int (i32 (0))) := eL541 ▸ jg_eq
                        refine jx_ld (pc' := 202) (l' := L541) (st' := [.int (i32 (0))]) rfl (jl_iloadn gL541_3) ?_
                        refine jx_if_eq (pc' := 205) (tg := 146) rfl rfl rfl (by decide) (by decide) (fun h542 => ?_) (fun h542 => ?_)
                        · have _q := h542
                          exact ih146 _ (by omega) L541 G488 A489 (p) ((many + (1))) (0) (at2_490) (G488 11) (fk2_491) (sy2_492) (na2_493) (pp1) rfl gL541_0 gL541_1 gL541_2 gL541_3 hW494 hF505 ((e496)) (rfl) ((e497)) ((e498)) ((e499)) ((congrFun (hF495.2 29 rfl) _).trans (ex_pp1)) (((hF495.1 9 rfl).trans (fx_9))) (((hF495.1 29 rfl).trans (fx_29))) (((hF495.1 46 rfl).trans (fx_46))) (((hF495.1 31 rfl).trans (fx_31))) (by omega) (by omega) (by omega) (by omega) (by omega) (by omega) (by omega) (by omega) (by omega) (by omega) (by omega) (by omega) (by omega) (by omega)
                        · have _q := h542
                          exact absurd h542 (by omega)
                      · have _q := h540
                        refine jx_ar (pc' := 196) (st' := [.int (i32 (1))]) rfl rfl rfl rfl ?_
                        refine jx_go (tg := 200) rfl rfl ?_
                        refine jx_ld (pc' := 201) (l' := jSto1 L524 3 (.int (i32 (1)))) (st' := []) rfl rfl ?_
                        obtain ⟨L543, eL543⟩ : ∃ q, q = jSto1 L524 3 (.int (i32 (1))) := ⟨_, rfl⟩
                        rw [← eL543]
                        have gL543_0 : jGet L543 0 = some (.ref 66) := eL543 ▸ jg_ne (by decide) gL524_0 rfl
                        have gL543_1 : jGet L543 1 = some (.int (i32 (p))) := eL543 ▸ jg_ne (by decide) gL524_1 rfl
                        have gL543_2 : jGet L543 2 = some (.int (i32 ((many + (1))))) := eL543 ▸ jg_ne (by decide) gL524_2 rfl
                        have gL543_3 : jGet L543 3 = some (.int (i32 (1))) := eL543 ▸ jg_eq
                        refine jx_ld (pc' := 202) (l' := L543) (st' := [.int (i32 (1))]) rfl (jl_iloadn gL543_3) ?_
                        refine jx_if_eq (pc' := 205) (tg := 146) rfl rfl rfl (by decide) (by decide) (fun h544 => ?_) (fun h544 => ?_)
                        · have _q := h544
                          exact absurd h544 (by omega)
                        · have _q := h544
                          refine jx_ld (pc' := 206) (l' := L543) (st' := [.ref 66]) rfl (jl_aloadn gL543_0) ?_
                          refine jx_vr (pc' := 209) (as := []) (st := []) rfl rfl rfl rfl ⟨rfl, rfl, Nat.le_of_ble_eq_true rfl⟩ rfl rfl (c_next (dd := d) (hd := by omega) (hW := hW494)  (ln := ln) (e_ln := show G488 9 = ln from ((hF495.1 9 rfl).trans (fx_9))) (le := le) (e_le := show A489 4 (ln).toNat = le from (congrFun ((hF495.2 4 rfl).trans (hFx.2 4 rfl)) _).trans (e_le)) (at0 := at2_490) (e_at0 := show G488 10 = at2_490 from (e496))    (p_0 := by omega)) (fun o V' hq => ?_)
                          obtain ⟨G545, A546, at2_547, tk2_548, rfl, rfl, hW549, hF550, e551, e552, p553, p554, p555, -⟩ := hq
                          have hF557 := Fr_tr hF505 hF550 (Fr_sub (by decide)) (Fr_sub (by decide))
                          have bat2_547 : (0 : Int) ≤ at2_547 ∧ at2_547 ≤ 3002 := e551 ▸ hW549.1 10
                          have ztk2_548 := tz_b tk2_548
                          have btk2_548 : (0 : Int) ≤ tk2_548 ∧ tk2_548 ≤ 5 := e552 ▸ hW549.1 11
                          refine .inl ⟨rfl, ?_⟩
                          refine jx_go (tg := 146) rfl rfl ?_
                          exact ih146 _ (by omega) L543 G545 A546 (p) ((many + (1))) (1) (at2_547) (tk2_548) (fk2_491) (sy2_492) (na2_493) (pp1) rfl gL543_0 gL543_1 gL543_2 gL543_3 hW549 hF557 ((e551)) ((e552)) (((hF550.1 16 rfl).trans (e497))) (((hF550.1 19 rfl).trans (e498))) (((hF550.1 28 rfl).trans (e499))) ((congrFun ((hF550.2 29 rfl).trans (hF495.2 29 rfl)) _).trans (ex_pp1)) (((hF550.1 9 rfl).trans ((hF495.1 9 rfl).trans (fx_9)))) (((hF550.1 29 rfl).trans ((hF495.1 29 rfl).trans (fx_29)))) (((hF550.1 46 rfl).trans ((hF495.1 46 rfl).trans (fx_46)))) (((hF550.1 31 rfl).trans ((hF495.1 31 rfl).trans (fx_31)))) (by omega) (by omega) (by omega) (by omega) (by omega) (by omega) (by omega) (by omega) (by omega) (by omega) (by omega) (by omega) (by omega) (by omega)
                  · have _q : True := trivial
                    refine jx_if_eq (pc' := 189) (tg := 199) rfl rfl rfl (by decide) (by decide) (fun h558 => ?_) (fun h558 => ?_)
                    · have _q := h558
                      refine jx_ar (pc' := 200) (st' := [.int (i32 (0))]) rfl rfl rfl rfl ?_
                      refine jx_ld (pc' := 201) (l' := jSto1 L524 3 (.int (i32 (0)))) (st' := []) rfl rfl ?_
                      obtain ⟨L559, eL559⟩ : ∃ q, q = jSto1 L524 3 (.int (i32 (0))) := ⟨_, rfl⟩
                      rw [← eL559]
                      have gL559_0 : jGet L559 0 = some (.ref 66) := eL559 ▸ jg_ne (by decide) gL524_0 rfl
                      have gL559_1 : jGet L559 1 = some (.int (i32 (p))) := eL559 ▸ jg_ne (by decide) gL524_1 rfl
                      have gL559_2 : jGet L559 2 = some (.int (i32 ((many + (1))))) := eL559 ▸ jg_ne (by decide) gL524_2 rfl
                      have gL559_3 : jGet L559 3 = some (.int (i32 (0))) := eL559 ▸ jg_eq
                      refine jx_ld (pc' := 202) (l' := L559) (st' := [.int (i32 (0))]) rfl (jl_iloadn gL559_3) ?_
                      refine jx_if_eq (pc' := 205) (tg := 146) rfl rfl rfl (by decide) (by decide) (fun h560 => ?_) (fun h560 => ?_)
                      · have _q := h560
                        exact ih146 _ (by omega) L559 G488 A489 (p) ((many + (1))) (0) (at2_490) (G488 11) (fk2_491) (sy2_492) (na2_493) (pp1) rfl gL559_0 gL559_1 gL559_2 gL559_3 hW494 hF505 ((e496)) (rfl) ((e497)) ((e498)) ((e499)) ((congrFun (hF495.2 29 rfl) _).trans (ex_pp1)) (((hF495.1 9 rfl).trans (fx_9))) (((hF495.1 29 rfl).trans (fx_29))) (((hF495.1 46 rfl).trans (fx_46))) (((hF495.1 31 rfl).trans (fx_31))) (by omega) (by omega) (by omega) (by omega) (by omega) (by omega) (by omega) (by omega) (by omega) (by omega) (by omega) (by omega) (by omega) (by omega)
                      · have _q := h560
                        exact absurd h560 (by omega)
                    · have _q := h558
                      exact absurd h558 (by omega)
  refine jx_ld (pc' := 1) (l' := [(0, .ref 66)]) (st' := [.ref 66]) rfl (jl_aloadn rfl) ?_
  refine jx_vr (pc' := 4) (as := []) (st := []) rfl rfl rfl rfl ⟨rfl, rfl, Nat.le_of_ble_eq_true rfl⟩ rfl rfl (c_next (dd := d) (hd := by omega) (hW := hW)  (ln := ln) (e_ln := show G 9 = ln from (e_ln)) (le := le) (e_le := show A 4 (ln).toNat = le from (e_le)) (at0 := at0) (e_at0 := show G 10 = at0 from (e_at0))    (p_0 := by omega)) (fun o V' hq => ?_)
  obtain ⟨G561, A562, at2_563, tk2_564, rfl, rfl, hW565, hF566, e567, e568, p569, p570, p571, -⟩ := hq
  have hF573 := Fr_tr hF0 hF566 (Fr_sub (by decide)) (Fr_sub (by decide))
  have bat2_563 : (0 : Int) ≤ at2_563 ∧ at2_563 ≤ 3002 := e567 ▸ hW565.1 10
  have ztk2_564 := tz_b tk2_564
  have btk2_564 : (0 : Int) ≤ tk2_564 ∧ tk2_564 ≤ 5 := e568 ▸ hW565.1 11
  refine .inl ⟨rfl, ?_⟩
  refine jx_ld (pc' := 5) (l' := [(0, .ref 66)]) (st' := [.ref 66]) rfl (jl_aloadn rfl) ?_
  have z574 := tz_f (tk2_564)
  refine jr_get (pc' := 8) (i := 11) (v := .int (i32 (tk2_564))) rfl rfl (by decide) (rFv_eq (by decide) (show G561 11 = tk2_564 from (e568))) rfl ?_
  refine jx_ar (pc' := 9) (st' := [.int (i32 (1)), .int (i32 (tk2_564))]) rfl rfl rfl rfl ?_
  refine jx_icmp_eq (pc' := 12) (tg := 22) rfl rfl rfl (Int.le_trans (by decide : (-2147483648 : Int) ≤ 0) btk2_564.1) (Int.le_trans btk2_564.2 (by decide : (5 : Int) ≤ 2147483647)) (by decide) (by decide) (fun h575 => ?_) (fun h575 => ?_)
  · have _q := h575
    refine jx_ld (pc' := 23) (l' := [(0, .ref 66)]) (st' := [.ref 66]) rfl (jl_aloadn rfl) ?_
    refine jx_ld (pc' := 24) (l' := [(0, .ref 66)]) (st' := [.ref 66, .ref 66]) rfl (jl_aloadn rfl) ?_
    refine jr_get (pc' := 27) (i := 14) (v := .long (i64 (G561 14))) rfl rfl (by decide) rfl rfl ?_
    obtain ⟨y576, ey576⟩ : ∃ q : Int64, q = i64 (G561 14) := ⟨_, rfl⟩
    rw [← ey576]
    refine jx_vr (pc' := 30) (as := [.long (y576)]) (st := []) rfl rfl rfl rfl ⟨rfl, rfl, Nat.le_of_ble_eq_true rfl⟩ rfl rfl (c_isTaken (dd := d) (hd := by omega) (hW := hW565) (nm := y576) (sy := sy) (e_sy := show G561 19 = sy from ((hF566.1 19 rfl).trans (e_sy)))    ) (fun o V' hq => ?_)
    obtain ⟨r577, rfl, rfl, b578, -⟩ := hq
    refine .inr ⟨_, rfl, ?_⟩
    refine jx_if_eq (pc' := 33) (tg := 42) rfl rfl rfl (Int.le_trans (by decide : (-2147483648 : Int) ≤ 0) b578.1) (Int.le_trans b578.2 (by decide : (1 : Int) ≤ 2147483647)) (fun h580 => ?_) (fun h580 => ?_)
    · have _q := h580
      refine jx_ld (pc' := 43) (l' := [(0, .ref 66)]) (st' := [.ref 66]) rfl (jl_aloadn rfl) ?_
      refine jx_vr (pc' := 46) (as := []) (st := []) rfl rfl rfl rfl ⟨rfl, rfl, Nat.le_of_ble_eq_true rfl⟩ rfl rfl (c_bad (dd := d) (hd := by omega) (hW := hW565)  (fk := fk) (e_fk := show G561 16 = fk from ((hF566.1 16 rfl).trans (e_fk)))    ) (fun o V' hq => ?_)
      obtain ⟨r581, rfl, rfl, b582, q583⟩ := hq
      refine .inr ⟨_, rfl, ?_⟩
      rcases q583 with ⟨rfl, a584⟩ | ⟨rfl, a585⟩
      · have _q : True := trivial
        exfalso
        omega
      · have _q : True := trivial
        refine jx_if_ne (pc' := 49) (tg := 68) rfl rfl rfl (by decide) (by decide) (fun h586 => ?_) (fun h586 => ?_)
        · have _q := h586
          exact absurd h586 (by omega)
        · have _q := h586
          refine jx_ld (pc' := 50) (l' := [(0, .ref 66)]) (st' := [.ref 66]) rfl (jl_aloadn rfl) ?_
          refine jr_get (pc' := 53) (i := 46) (v := .int (i32 (pc0))) rfl rfl (by decide) (rFv_eq (by decide) (show G561 46 = pc0 from ((hF566.1 46 rfl).trans (e_pc0)))) rfl ?_
          refine jx_ar (pc' := 55) (st' := [.int (i32 (24)), .int (i32 (pc0))]) rfl rfl rfl rfl ?_
          refine jx_icmp_ne (pc' := 58) (tg := 68) rfl rfl rfl (Int.le_trans (by decide : (-2147483648 : Int) ≤ 0) b_pc0.1) (Int.le_trans b_pc0.2 (by decide : (24 : Int) ≤ 2147483647)) (by decide) (by decide) (fun h587 => ?_) (fun h587 => ?_)
          · have _q := h587
            refine jx_ld (pc' := 69) (l' := [(0, .ref 66)]) (st' := [.ref 66]) rfl (jl_aloadn rfl) ?_
            refine jx_ar (pc' := 71) (st' := [.int (i32 (14)), .ref 66]) rfl rfl rfl rfl ?_
            refine jx_ar (pc' := 72) (st' := [.int (i32 (0)), .int (i32 (14)), .ref 66]) rfl rfl rfl rfl ?_
            refine jx_vr (pc' := 75) (as := [.int (i32 (14)), .int (i32 (0))]) (st := []) rfl rfl rfl rfl ⟨rfl, rfl, Nat.le_of_ble_eq_true rfl⟩ rfl rfl (c_newName (dd := d) (hd := by omega) (hW := hW565) (kind := 14) (many := 0) (sy := sy) (e_sy := show G561 19 = sy from ((hF566.1 19 rfl).trans (e_sy))) (na := na) (e_na := show G561 28 = na from ((hF566.1 28 rfl).trans (e_na))) (fk := fk) (e_fk := show G561 16 = fk from ((hF566.1 16 rfl).trans (e_fk)))  (h_kind := ⟨(by decide), (by decide)⟩) (h_many := ⟨(by decide), (by decide)⟩)  (p_0 := by omega) (p_1 := by omega)) (fun o V' hq => ?_)
            obtain ⟨G588, A589, r590, sy2_591, na2_592, fk2_593, rfl, rfl, hW594, hF595, b596, e597, e598, e599, q600⟩ := hq
            have hF601 := Fr_tr hF573 hF595 (Fr_sub (by decide)) (Fr_sub (by decide))
            have bsy2_591 : (0 : Int) ≤ sy2_591 ∧ sy2_591 ≤ 202 := e597 ▸ hW594.1 19
            have bna2_592 : (0 : Int) ≤ na2_592 ∧ na2_592 ≤ 200 := e598 ▸ hW594.1 28
            have bfk2_593 : (0 : Int) ≤ fk2_593 ∧ fk2_593 ≤ 6 := e599 ▸ hW594.1 16
            refine .inr ⟨_, rfl, ?_⟩
            rcases q600 with ⟨a602, a603, a604, a605, a606⟩ | ⟨a607, a608, a609, a610⟩
            · have _q : True := trivial
              refine jx_ld (pc' := 76) (l' := jSto1 [(0, .ref 66)] 1 (.int (i32 (r590)))) (st' := []) rfl rfl ?_
              obtain ⟨L611, eL611⟩ : ∃ q, q = jSto1 [(0, .ref 66)] 1 (.int (i32 (r590))) := ⟨_, rfl⟩
              rw [← eL611]
              have gL611_0 : jGet L611 0 = some (.ref 66) := eL611 ▸ jg_ne (by decide) (rfl : jGet [(0, .ref 66)] 0 = some (.ref 66)) rfl
              have gL611_1 : jGet L611 1 = some (.int (i32 (r590))) := eL611 ▸ jg_eq
              refine jx_ld (pc' := 77) (l' := L611) (st' := [.ref 66]) rfl (jl_aloadn gL611_0) ?_
              refine jx_vr (pc' := 80) (as := []) (st := []) rfl rfl rfl rfl ⟨rfl, rfl, Nat.le_of_ble_eq_true rfl⟩ rfl rfl (c_bad (dd := d) (hd := by omega) (hW := hW594)  (fk := fk2_593) (e_fk := show G588 16 = fk2_593 from (e599))    ) (fun o V' hq => ?_)
              obtain ⟨r612, rfl, rfl, b613, q614⟩ := hq
              refine .inr ⟨_, rfl, ?_⟩
              rcases q614 with ⟨rfl, a615⟩ | ⟨rfl, a616⟩
              · have _q : True := trivial
                exfalso
                omega
              · have _q : True := trivial
                refine jx_if_eq (pc' := 83) (tg := 84) rfl rfl rfl (by decide) (by decide) (fun h617 => ?_) (fun h617 => ?_)
                · have _q := h617
                  refine jx_ld (pc' := 85) (l' := L611) (st' := [.ref 66]) rfl (jl_aloadn gL611_0) ?_
                  refine jr_get (pc' := 88) (i := 26) (v := .ref 79) rfl rfl (by decide) rfl rfl ?_
                  refine jx_ld (pc' := 89) (l' := L611) (st' := [.int (i32 (r590)), .ref 79]) rfl (jl_iloadn gL611_1) ?_
                  refine jx_ld (pc' := 90) (l' := L611) (st' := [.ref 66, .int (i32 (r590)), .ref 79]) rfl (jl_aloadn gL611_0) ?_
                  refine jr_get (pc' := 93) (i := 46) (v := .int (i32 (pc0))) rfl rfl (by decide) (rFv_eq (by decide) (show G588 46 = pc0 from ((hF595.1 46 rfl).trans ((hF566.1 46 rfl).trans (e_pc0))))) rfl ?_
                  refine jr_st (pc' := 94) (i := 12) (m := 260) (z := r590) (y := pc0) rfl (by decide) rfl (by decide) (by omega) (by omega) rfl ?_
                  have hW619 : Wk G588 (uA A589 12 (r590).toNat (pc0)) := Wk_a hW594 (show (0 : Int) ≤ pc0 by omega) (show pc0 ≤ (24 : Int) by omega)
                  have hF620 := Fr_a (z := pc0) (k := 12) (n := (r590).toNat) hF601 (by decide)
                  obtain ⟨A618, eA618⟩ : ∃ q, q = uA A589 12 (r590).toNat (pc0) := ⟨_, rfl⟩
                  rw [← eA618]
                  rw [← eA618] at hW619 hF620
                  have q621 : A618 12 (r590).toNat = pc0 := by rw [eA618]; exact uA_eq
                  refine jx_ld (pc' := 95) (l' := L611) (st' := [.ref 66]) rfl (jl_aloadn gL611_0) ?_
                  refine jx_ar (pc' := 96) (st' := [.int (i32 (1)), .ref 66]) rfl rfl rfl rfl ?_
                  refine jx_vr (pc' := 99) (as := [.int (i32 (1))]) (st := []) rfl rfl rfl rfl ⟨rfl, rfl, Nat.le_of_ble_eq_true rfl⟩ rfl rfl (c_need (dd := d) (hd := by omega) (hW := hW619) (g := 1) (ln := ln) (e_ln := show G588 9 = ln from ((hF595.1 9 rfl).trans ((hF566.1 9 rfl).trans (e_ln)))) (le := le) (e_le := show A618 4 (ln).toNat = le from (congrFun (((congrFun eA618 4).trans (uA_ne (by decide))).trans ((hF595.2 4 rfl).trans (hF566.2 4 rfl))) _).trans (e_le)) (at0 := at2_563) (e_at0 := show G588 10 = at2_563 from ((hF595.1 10 rfl).trans (e567))) (fk := fk2_593) (e_fk := show G588 16 = fk2_593 from (e599)) (tk0 := tk2_564) (e_tk0 := show G588 11 = tk2_564 from ((hF595.1 11 rfl).trans (e568)))  (h_g := ⟨(by decide), (by decide)⟩)  (p_0 := by omega)) (fun o V' hq => ?_)
                  obtain ⟨G622, A623, at2_624, tk2_625, fk2_626, rfl, rfl, hW627, hF628, e629, e630, e631, p632, p633, q634⟩ := hq
                  have hF635 := Fr_tr hF620 hF628 (Fr_sub (by decide)) (Fr_sub (by decide))
                  have bat2_624 : (0 : Int) ≤ at2_624 ∧ at2_624 ≤ 3002 := e629 ▸ hW627.1 10
                  have ztk2_625 := tz_b tk2_625
                  have btk2_625 : (0 : Int) ≤ tk2_625 ∧ tk2_625 ≤ 5 := e630 ▸ hW627.1 11
                  have bfk2_626 : (0 : Int) ≤ fk2_626 ∧ fk2_626 ≤ 6 := e631 ▸ hW627.1 16
                  refine .inl ⟨rfl, ?_⟩
                  rcases q634 with ⟨a636, a637, a638, a639⟩ | ⟨a640, a641, a642, a643⟩
                  · have _q : True := trivial
                    refine jx_ld (pc' := 100) (l' := L611) (st' := [.ref 66]) rfl (jl_aloadn gL611_0) ?_
                    refine jx_ld (pc' := 101) (l' := L611) (st' := [.ref 66, .ref 66]) rfl (jl_aloadn gL611_0) ?_
                    refine jx_ar (pc' := 103) (st' := [.int (i32 (40)), .ref 66, .ref 66]) rfl rfl rfl rfl ?_
                    have b644 : (-2147483648 : Int) ≤ G622 13 ∧ G622 13 ≤ 2147483647 := hW627.1 13
                    refine jx_vr (pc' := 106) (as := [.int (i32 (40))]) (st := [.ref 66]) rfl rfl rfl rfl ⟨rfl, rfl, Nat.le_of_ble_eq_true rfl⟩ rfl rfl (c_is (dd := d) (hd := by omega) (hW := hW627) (k := 40) (tk := tk2_625) (e_tk := show G622 11 = tk2_625 from (e630)) (tn := G622 13) (e_tn := show G622 13 = G622 13 from rfl)  (h_k := ⟨(by decide), (by decide)⟩)  ) (fun o V' hq => ?_)
                    obtain ⟨r645, rfl, rfl, b646, q647⟩ := hq
                    refine .inr ⟨_, rfl, ?_⟩
                    rcases q647 with ⟨rfl, a648, a649, a650⟩ | rfl
                    · have _q : True := trivial
                      refine jx_vr (pc' := 109) (as := [.int (i32 (1))]) (st := []) rfl rfl rfl rfl ⟨rfl, rfl, Nat.le_of_ble_eq_true rfl⟩ rfl rfl (c_need (dd := d) (hd := by omega) (hW := hW627) (g := 1) (ln := ln) (e_ln := show G622 9 = ln from ((hF628.1 9 rfl).trans ((hF595.1 9 rfl).trans ((hF566.1 9 rfl).trans (e_ln))))) (le := le) (e_le := show A623 4 (ln).toNat = le from (congrFun ((hF628.2 4 rfl).trans (((congrFun eA618 4).trans (uA_ne (by decide))).trans ((hF595.2 4 rfl).trans (hF566.2 4 rfl)))) _).trans (e_le)) (at0 := at2_624) (e_at0 := show G622 10 = at2_624 from (e629)) (fk := fk2_626) (e_fk := show G622 16 = fk2_626 from (e631)) (tk0 := tk2_625) (e_tk0 := show G622 11 = tk2_625 from (e630))  (h_g := ⟨(by decide), (by decide)⟩)  (p_0 := by omega)) (fun o V' hq => ?_)
                      obtain ⟨G651, A652, at2_653, tk2_654, fk2_655, rfl, rfl, hW656, hF657, e658, e659, e660, p661, p662, q663⟩ := hq
                      have hF664 := Fr_tr hF635 hF657 (Fr_sub (by decide)) (Fr_sub (by decide))
                      have bat2_653 : (0 : Int) ≤ at2_653 ∧ at2_653 ≤ 3002 := e658 ▸ hW656.1 10
                      have ztk2_654 := tz_b tk2_654
                      have btk2_654 : (0 : Int) ≤ tk2_654 ∧ tk2_654 ≤ 5 := e659 ▸ hW656.1 11
                      have bfk2_655 : (0 : Int) ≤ fk2_655 ∧ fk2_655 ≤ 6 := e660 ▸ hW656.1 16
                      refine .inl ⟨rfl, ?_⟩
                      rcases q663 with ⟨a665, a666, a667, a668⟩ | ⟨a669, a670, a671, a672⟩
                      · have _q : True := trivial
                        refine jx_ld (pc' := 110) (l' := L611) (st' := [.ref 66]) rfl (jl_aloadn gL611_0) ?_
                        refine jr_get (pc' := 113) (i := 47) (v := .ref 96) rfl rfl (by decide) rfl rfl ?_
                        refine jx_ld (pc' := 114) (l' := L611) (st' := [.ref 66, .ref 96]) rfl (jl_aloadn gL611_0) ?_
                        refine jr_get (pc' := 117) (i := 46) (v := .int (i32 (pc0))) rfl rfl (by decide) (rFv_eq (by decide) (show G651 46 = pc0 from ((hF657.1 46 rfl).trans ((hF628.1 46 rfl).trans ((hF595.1 46 rfl).trans ((hF566.1 46 rfl).trans (e_pc0))))))) rfl ?_
                        refine jx_ld (pc' := 118) (l' := L611) (st' := [.ref 66, .int (i32 (pc0)), .ref 96]) rfl (jl_aloadn gL611_0) ?_
                        refine jr_get (pc' := 121) (i := 19) (v := .int (i32 (sy2_591))) rfl rfl (by decide) (rFv_eq (by decide) (show G651 19 = sy2_591 from ((hF657.1 19 rfl).trans ((hF628.1 19 rfl).trans (e597))))) rfl ?_
                        refine jr_st (pc' := 122) (i := 29) (m := 25) (z := pc0) (y := sy2_591) rfl (by decide) rfl (by decide) (by omega) (by omega) rfl ?_
                        have hW674 : Wk G651 (uA A652 29 (pc0).toNat (sy2_591)) := Wk_a hW656 (show (0 : Int) ≤ sy2_591 by omega) (show sy2_591 ≤ (202 : Int) by omega)
                        have hF675 := Fr_a (z := sy2_591) (k := 29) (n := (pc0).toNat) hF664 (by decide)
                        obtain ⟨A673, eA673⟩ : ∃ q, q = uA A652 29 (pc0).toNat (sy2_591) := ⟨_, rfl⟩
                        rw [← eA673]
                        rw [← eA673] at hW674 hF675
                        have q676 : A673 29 (pc0).toNat = sy2_591 := by rw [eA673]; exact uA_eq
                        refine jx_ar (pc' := 123) (st' := [.int (i32 (0))]) rfl rfl rfl rfl ?_
                        refine jx_ld (pc' := 124) (l' := jSto1 L611 2 (.int (i32 (0)))) (st' := []) rfl rfl ?_
                        obtain ⟨L677, eL677⟩ : ∃ q, q = jSto1 L611 2 (.int (i32 (0))) := ⟨_, rfl⟩
                        rw [← eL677]
                        have gL677_0 : jGet L677 0 = some (.ref 66) := eL677 ▸ jg_ne (by decide) gL611_0 rfl
                        have gL677_1 : jGet L677 1 = some (.int (i32 (r590))) := eL677 ▸ jg_ne (by decide) gL611_1 rfl
                        have gL677_2 : jGet L677 2 = some (.int (i32 (0))) := eL677 ▸ jg_eq
                        refine jx_ld (pc' := 125) (l' := L677) (st' := [.ref 66]) rfl (jl_aloadn gL677_0) ?_
                        refine jx_vr (pc' := 128) (as := []) (st := []) rfl rfl rfl rfl ⟨rfl, rfl, Nat.le_of_ble_eq_true rfl⟩ rfl rfl (c_bad (dd := d) (hd := by omega) (hW := hW674)  (fk := fk2_655) (e_fk := show G651 16 = fk2_655 from (e660))    ) (fun o V' hq => ?_)
                        obtain ⟨r678, rfl, rfl, b679, q680⟩ := hq
                        refine .inr ⟨_, rfl, ?_⟩
                        rcases q680 with ⟨rfl, a681⟩ | ⟨rfl, a682⟩
                        · have _q : True := trivial
                          refine jx_if_ne (pc' := 131) (tg := 144) rfl rfl rfl (by decide) (by decide) (fun h683 => ?_) (fun h683 => ?_)
                          · have _q := h683
                            refine jx_ar (pc' := 145) (st' := [.int (i32 (0))]) rfl rfl rfl rfl ?_
                            refine jx_ld (pc' := 146) (l' := jSto1 L677 3 (.int (i32 (0)))) (st' := []) rfl rfl ?_
                            obtain ⟨L684, eL684⟩ : ∃ q, q = jSto1 L677 3 (.int (i32 (0))) := ⟨_, rfl⟩
                            rw [← eL684]
                            have gL684_0 : jGet L684 0 = some (.ref 66) := eL684 ▸ jg_ne (by decide) gL677_0 rfl
                            have gL684_1 : jGet L684 1 = some (.int (i32 (r590))) := eL684 ▸ jg_ne (by decide) gL677_1 rfl
                            have gL684_2 : jGet L684 2 = some (.int (i32 (0))) := eL684 ▸ jg_ne (by decide) gL677_2 rfl
                            have gL684_3 : jGet L684 3 = some (.int (i32 (0))) := eL684 ▸ jg_eq
                            refine jx_ld (pc' := 147) (l' := L684) (st' := [.ref 66]) rfl (jl_aloadn gL684_0) ?_
                            refine jx_vr (pc' := 150) (as := []) (st := []) rfl rfl rfl rfl ⟨rfl, rfl, Nat.le_of_ble_eq_true rfl⟩ rfl rfl (c_bad (dd := d) (hd := by omega) (hW := hW674)  (fk := fk2_655) (e_fk := show G651 16 = fk2_655 from (e660))    ) (fun o V' hq => ?_)
                            obtain ⟨r685, rfl, rfl, b686, q687⟩ := hq
                            refine .inr ⟨_, rfl, ?_⟩
                            rcases q687 with ⟨rfl, a688⟩ | ⟨rfl, a689⟩
                            · have _q : True := trivial
                              refine jx_if_ne (pc' := 153) (tg := 212) rfl rfl rfl (by decide) (by decide) (fun h690 => ?_) (fun h690 => ?_)
                              · have _q := h690
                                exact at_212p L684 G651 A673 (r590) (0) (at2_653) (fk2_655) (sy2_591) (na2_592) gL684_0 gL684_1 gL684_2 hW674 hF675 ((e658)) ((e660)) (((hF657.1 19 rfl).trans ((hF628.1 19 rfl).trans (e597)))) (((hF657.1 28 rfl).trans ((hF628.1 28 rfl).trans (e598)))) (((hF657.1 9 rfl).trans ((hF628.1 9 rfl).trans ((hF595.1 9 rfl).trans ((hF566.1 9 rfl).trans (e_ln)))))) (((hF657.1 29 rfl).trans ((hF628.1 29 rfl).trans ((hF595.1 29 rfl).trans ((hF566.1 29 rfl).trans (e_vi)))))) (((hF657.1 46 rfl).trans ((hF628.1 46 rfl).trans ((hF595.1 46 rfl).trans ((hF566.1 46 rfl).trans (e_pc0)))))) (((hF657.1 31 rfl).trans ((hF628.1 31 rfl).trans ((hF595.1 31 rfl).trans ((hF566.1 31 rfl).trans (e_nd)))))) (by omega) (by omega) (by omega) (by omega) (by omega) (by omega) (by omega) (by omega) (by omega)
                              · have _q := h690
                                exact absurd h690 (by omega)
                            · have _q : True := trivial
                              exfalso
                              omega
                          · have _q := h683
                            exact absurd h683 (by omega)
                        · have _q : True := trivial
                          exfalso
                          omega
                      · have _q : True := trivial
                        exfalso
                        omega
                    · have _q : True := trivial
                      refine jx_vr (pc' := 109) (as := [.int (i32 (0))]) (st := []) rfl rfl rfl rfl ⟨rfl, rfl, Nat.le_of_ble_eq_true rfl⟩ rfl rfl (c_need (dd := d) (hd := by omega) (hW := hW627) (g := 0) (ln := ln) (e_ln := show G622 9 = ln from ((hF628.1 9 rfl).trans ((hF595.1 9 rfl).trans ((hF566.1 9 rfl).trans (e_ln))))) (le := le) (e_le := show A623 4 (ln).toNat = le from (congrFun ((hF628.2 4 rfl).trans (((congrFun eA618 4).trans (uA_ne (by decide))).trans ((hF595.2 4 rfl).trans (hF566.2 4 rfl)))) _).trans (e_le)) (at0 := at2_624) (e_at0 := show G622 10 = at2_624 from (e629)) (fk := fk2_626) (e_fk := show G622 16 = fk2_626 from (e631)) (tk0 := tk2_625) (e_tk0 := show G622 11 = tk2_625 from (e630))  (h_g := ⟨(by decide), (by decide)⟩)  (p_0 := by omega)) (fun o V' hq => ?_)
                      obtain ⟨G691, A692, at2_693, tk2_694, fk2_695, rfl, rfl, hW696, hF697, e698, e699, e700, p701, p702, q703⟩ := hq
                      have hF704 := Fr_tr hF635 hF697 (Fr_sub (by decide)) (Fr_sub (by decide))
                      have bat2_693 : (0 : Int) ≤ at2_693 ∧ at2_693 ≤ 3002 := e698 ▸ hW696.1 10
                      have ztk2_694 := tz_b tk2_694
                      have btk2_694 : (0 : Int) ≤ tk2_694 ∧ tk2_694 ≤ 5 := e699 ▸ hW696.1 11
                      have bfk2_695 : (0 : Int) ≤ fk2_695 ∧ fk2_695 ≤ 6 := e700 ▸ hW696.1 16
                      refine .inl ⟨rfl, ?_⟩
                      rcases q703 with ⟨a705, a706, a707, a708⟩ | ⟨a709, a710, a711, a712⟩
                      · have _q : True := trivial
                        refine jx_ld (pc' := 110) (l' := L611) (st' := [.ref 66]) rfl (jl_aloadn gL611_0) ?_
                        refine jr_get (pc' := 113) (i := 47) (v := .ref 96) rfl rfl (by decide) rfl rfl ?_
                        refine jx_ld (pc' := 114) (l' := L611) (st' := [.ref 66, .ref 96]) rfl (jl_aloadn gL611_0) ?_
                        refine jr_get (pc' := 117) (i := 46) (v := .int (i32 (pc0))) rfl rfl (by decide) (rFv_eq (by decide) (show G691 46 = pc0 from ((hF697.1 46 rfl).trans ((hF628.1 46 rfl).trans ((hF595.1 46 rfl).trans ((hF566.1 46 rfl).trans (e_pc0))))))) rfl ?_
                        refine jx_ld (pc' := 118) (l' := L611) (st' := [.ref 66, .int (i32 (pc0)), .ref 96]) rfl (jl_aloadn gL611_0) ?_
                        refine jr_get (pc' := 121) (i := 19) (v := .int (i32 (sy2_591))) rfl rfl (by decide) (rFv_eq (by decide) (show G691 19 = sy2_591 from ((hF697.1 19 rfl).trans ((hF628.1 19 rfl).trans (e597))))) rfl ?_
                        refine jr_st (pc' := 122) (i := 29) (m := 25) (z := pc0) (y := sy2_591) rfl (by decide) rfl (by decide) (by omega) (by omega) rfl ?_
                        have hW714 : Wk G691 (uA A692 29 (pc0).toNat (sy2_591)) := Wk_a hW696 (show (0 : Int) ≤ sy2_591 by omega) (show sy2_591 ≤ (202 : Int) by omega)
                        have hF715 := Fr_a (z := sy2_591) (k := 29) (n := (pc0).toNat) hF704 (by decide)
                        obtain ⟨A713, eA713⟩ : ∃ q, q = uA A692 29 (pc0).toNat (sy2_591) := ⟨_, rfl⟩
                        rw [← eA713]
                        rw [← eA713] at hW714 hF715
                        have q716 : A713 29 (pc0).toNat = sy2_591 := by rw [eA713]; exact uA_eq
                        refine jx_ar (pc' := 123) (st' := [.int (i32 (0))]) rfl rfl rfl rfl ?_
                        refine jx_ld (pc' := 124) (l' := jSto1 L611 2 (.int (i32 (0)))) (st' := []) rfl rfl ?_
                        obtain ⟨L717, eL717⟩ : ∃ q, q = jSto1 L611 2 (.int (i32 (0))) := ⟨_, rfl⟩
                        rw [← eL717]
                        have gL717_0 : jGet L717 0 = some (.ref 66) := eL717 ▸ jg_ne (by decide) gL611_0 rfl
                        have gL717_1 : jGet L717 1 = some (.int (i32 (r590))) := eL717 ▸ jg_ne (by decide) gL611_1 rfl
                        have gL717_2 : jGet L717 2 = some (.int (i32 (0))) := eL717 ▸ jg_eq
                        refine jx_ld (pc' := 125) (l' := L717) (st' := [.ref 66]) rfl (jl_aloadn gL717_0) ?_
                        refine jx_vr (pc' := 128) (as := []) (st := []) rfl rfl rfl rfl ⟨rfl, rfl, Nat.le_of_ble_eq_true rfl⟩ rfl rfl (c_bad (dd := d) (hd := by omega) (hW := hW714)  (fk := fk2_695) (e_fk := show G691 16 = fk2_695 from (e700))    ) (fun o V' hq => ?_)
                        obtain ⟨r718, rfl, rfl, b719, q720⟩ := hq
                        refine .inr ⟨_, rfl, ?_⟩
                        rcases q720 with ⟨rfl, a721⟩ | ⟨rfl, a722⟩
                        · have _q : True := trivial
                          refine jx_if_ne (pc' := 131) (tg := 144) rfl rfl rfl (by decide) (by decide) (fun h723 => ?_) (fun h723 => ?_)
                          · have _q := h723
                            refine jx_ar (pc' := 145) (st' := [.int (i32 (0))]) rfl rfl rfl rfl ?_
                            refine jx_ld (pc' := 146) (l' := jSto1 L717 3 (.int (i32 (0)))) (st' := []) rfl rfl ?_
                            obtain ⟨L724, eL724⟩ : ∃ q, q = jSto1 L717 3 (.int (i32 (0))) := ⟨_, rfl⟩
                            rw [← eL724]
                            have gL724_0 : jGet L724 0 = some (.ref 66) := eL724 ▸ jg_ne (by decide) gL717_0 rfl
                            have gL724_1 : jGet L724 1 = some (.int (i32 (r590))) := eL724 ▸ jg_ne (by decide) gL717_1 rfl
                            have gL724_2 : jGet L724 2 = some (.int (i32 (0))) := eL724 ▸ jg_ne (by decide) gL717_2 rfl
                            have gL724_3 : jGet L724 3 = some (.int (i32 (0))) := eL724 ▸ jg_eq
                            refine jx_ld (pc' := 147) (l' := L724) (st' := [.ref 66]) rfl (jl_aloadn gL724_0) ?_
                            refine jx_vr (pc' := 150) (as := []) (st := []) rfl rfl rfl rfl ⟨rfl, rfl, Nat.le_of_ble_eq_true rfl⟩ rfl rfl (c_bad (dd := d) (hd := by omega) (hW := hW714)  (fk := fk2_695) (e_fk := show G691 16 = fk2_695 from (e700))    ) (fun o V' hq => ?_)
                            obtain ⟨r725, rfl, rfl, b726, q727⟩ := hq
                            refine .inr ⟨_, rfl, ?_⟩
                            rcases q727 with ⟨rfl, a728⟩ | ⟨rfl, a729⟩
                            · have _q : True := trivial
                              refine jx_if_ne (pc' := 153) (tg := 212) rfl rfl rfl (by decide) (by decide) (fun h730 => ?_) (fun h730 => ?_)
                              · have _q := h730
                                exact at_212p L724 G691 A713 (r590) (0) (at2_693) (fk2_695) (sy2_591) (na2_592) gL724_0 gL724_1 gL724_2 hW714 hF715 ((e698)) ((e700)) (((hF697.1 19 rfl).trans ((hF628.1 19 rfl).trans (e597)))) (((hF697.1 28 rfl).trans ((hF628.1 28 rfl).trans (e598)))) (((hF697.1 9 rfl).trans ((hF628.1 9 rfl).trans ((hF595.1 9 rfl).trans ((hF566.1 9 rfl).trans (e_ln)))))) (((hF697.1 29 rfl).trans ((hF628.1 29 rfl).trans ((hF595.1 29 rfl).trans ((hF566.1 29 rfl).trans (e_vi)))))) (((hF697.1 46 rfl).trans ((hF628.1 46 rfl).trans ((hF595.1 46 rfl).trans ((hF566.1 46 rfl).trans (e_pc0)))))) (((hF697.1 31 rfl).trans ((hF628.1 31 rfl).trans ((hF595.1 31 rfl).trans ((hF566.1 31 rfl).trans (e_nd)))))) (by omega) (by omega) (by omega) (by omega) (by omega) (by omega) (by omega) (by omega) (by omega)
                              · have _q := h730
                                exact absurd h730 (by omega)
                            · have _q : True := trivial
                              exfalso
                              omega
                          · have _q := h723
                            exact absurd h723 (by omega)
                        · have _q : True := trivial
                          exfalso
                          omega
                      · have _q : True := trivial
                        exfalso
                        omega
                  · have _q : True := trivial
                    refine jx_ld (pc' := 100) (l' := L611) (st' := [.ref 66]) rfl (jl_aloadn gL611_0) ?_
                    refine jx_ld (pc' := 101) (l' := L611) (st' := [.ref 66, .ref 66]) rfl (jl_aloadn gL611_0) ?_
                    refine jx_ar (pc' := 103) (st' := [.int (i32 (40)), .ref 66, .ref 66]) rfl rfl rfl rfl ?_
                    have b731 : (-2147483648 : Int) ≤ G622 13 ∧ G622 13 ≤ 2147483647 := hW627.1 13
                    refine jx_vr (pc' := 106) (as := [.int (i32 (40))]) (st := [.ref 66]) rfl rfl rfl rfl ⟨rfl, rfl, Nat.le_of_ble_eq_true rfl⟩ rfl rfl (c_is (dd := d) (hd := by omega) (hW := hW627) (k := 40) (tk := tk2_625) (e_tk := show G622 11 = tk2_625 from (e630)) (tn := G622 13) (e_tn := show G622 13 = G622 13 from rfl)  (h_k := ⟨(by decide), (by decide)⟩)  ) (fun o V' hq => ?_)
                    obtain ⟨r732, rfl, rfl, b733, q734⟩ := hq
                    refine .inr ⟨_, rfl, ?_⟩
                    rcases q734 with ⟨rfl, a735, a736, a737⟩ | rfl
                    · have _q : True := trivial
                      refine jx_vr (pc' := 109) (as := [.int (i32 (1))]) (st := []) rfl rfl rfl rfl ⟨rfl, rfl, Nat.le_of_ble_eq_true rfl⟩ rfl rfl (c_need (dd := d) (hd := by omega) (hW := hW627) (g := 1) (ln := ln) (e_ln := show G622 9 = ln from ((hF628.1 9 rfl).trans ((hF595.1 9 rfl).trans ((hF566.1 9 rfl).trans (e_ln))))) (le := le) (e_le := show A623 4 (ln).toNat = le from (congrFun ((hF628.2 4 rfl).trans (((congrFun eA618 4).trans (uA_ne (by decide))).trans ((hF595.2 4 rfl).trans (hF566.2 4 rfl)))) _).trans (e_le)) (at0 := at2_624) (e_at0 := show G622 10 = at2_624 from (e629)) (fk := fk2_626) (e_fk := show G622 16 = fk2_626 from (e631)) (tk0 := tk2_625) (e_tk0 := show G622 11 = tk2_625 from (e630))  (h_g := ⟨(by decide), (by decide)⟩)  (p_0 := by omega)) (fun o V' hq => ?_)
                      obtain ⟨G738, A739, at2_740, tk2_741, fk2_742, rfl, rfl, hW743, hF744, e745, e746, e747, p748, p749, q750⟩ := hq
                      have hF751 := Fr_tr hF635 hF744 (Fr_sub (by decide)) (Fr_sub (by decide))
                      have bat2_740 : (0 : Int) ≤ at2_740 ∧ at2_740 ≤ 3002 := e745 ▸ hW743.1 10
                      have ztk2_741 := tz_b tk2_741
                      have btk2_741 : (0 : Int) ≤ tk2_741 ∧ tk2_741 ≤ 5 := e746 ▸ hW743.1 11
                      have bfk2_742 : (0 : Int) ≤ fk2_742 ∧ fk2_742 ≤ 6 := e747 ▸ hW743.1 16
                      refine .inl ⟨rfl, ?_⟩
                      rcases q750 with ⟨a752, a753, a754, a755⟩ | ⟨a756, a757, a758, a759⟩
                      · have _q : True := trivial
                        refine jx_ld (pc' := 110) (l' := L611) (st' := [.ref 66]) rfl (jl_aloadn gL611_0) ?_
                        refine jr_get (pc' := 113) (i := 47) (v := .ref 96) rfl rfl (by decide) rfl rfl ?_
                        refine jx_ld (pc' := 114) (l' := L611) (st' := [.ref 66, .ref 96]) rfl (jl_aloadn gL611_0) ?_
                        refine jr_get (pc' := 117) (i := 46) (v := .int (i32 (pc0))) rfl rfl (by decide) (rFv_eq (by decide) (show G738 46 = pc0 from ((hF744.1 46 rfl).trans ((hF628.1 46 rfl).trans ((hF595.1 46 rfl).trans ((hF566.1 46 rfl).trans (e_pc0))))))) rfl ?_
                        refine jx_ld (pc' := 118) (l' := L611) (st' := [.ref 66, .int (i32 (pc0)), .ref 96]) rfl (jl_aloadn gL611_0) ?_
                        refine jr_get (pc' := 121) (i := 19) (v := .int (i32 (sy2_591))) rfl rfl (by decide) (rFv_eq (by decide) (show G738 19 = sy2_591 from ((hF744.1 19 rfl).trans ((hF628.1 19 rfl).trans (e597))))) rfl ?_
                        refine jr_st (pc' := 122) (i := 29) (m := 25) (z := pc0) (y := sy2_591) rfl (by decide) rfl (by decide) (by omega) (by omega) rfl ?_
                        have hW761 : Wk G738 (uA A739 29 (pc0).toNat (sy2_591)) := Wk_a hW743 (show (0 : Int) ≤ sy2_591 by omega) (show sy2_591 ≤ (202 : Int) by omega)
                        have hF762 := Fr_a (z := sy2_591) (k := 29) (n := (pc0).toNat) hF751 (by decide)
                        obtain ⟨A760, eA760⟩ : ∃ q, q = uA A739 29 (pc0).toNat (sy2_591) := ⟨_, rfl⟩
                        rw [← eA760]
                        rw [← eA760] at hW761 hF762
                        have q763 : A760 29 (pc0).toNat = sy2_591 := by rw [eA760]; exact uA_eq
                        refine jx_ar (pc' := 123) (st' := [.int (i32 (0))]) rfl rfl rfl rfl ?_
                        refine jx_ld (pc' := 124) (l' := jSto1 L611 2 (.int (i32 (0)))) (st' := []) rfl rfl ?_
                        obtain ⟨L764, eL764⟩ : ∃ q, q = jSto1 L611 2 (.int (i32 (0))) := ⟨_, rfl⟩
                        rw [← eL764]
                        have gL764_0 : jGet L764 0 = some (.ref 66) := eL764 ▸ jg_ne (by decide) gL611_0 rfl
                        have gL764_1 : jGet L764 1 = some (.int (i32 (r590))) := eL764 ▸ jg_ne (by decide) gL611_1 rfl
                        have gL764_2 : jGet L764 2 = some (.int (i32 (0))) := eL764 ▸ jg_eq
                        refine jx_ld (pc' := 125) (l' := L764) (st' := [.ref 66]) rfl (jl_aloadn gL764_0) ?_
                        refine jx_vr (pc' := 128) (as := []) (st := []) rfl rfl rfl rfl ⟨rfl, rfl, Nat.le_of_ble_eq_true rfl⟩ rfl rfl (c_bad (dd := d) (hd := by omega) (hW := hW761)  (fk := fk2_742) (e_fk := show G738 16 = fk2_742 from (e747))    ) (fun o V' hq => ?_)
                        obtain ⟨r765, rfl, rfl, b766, q767⟩ := hq
                        refine .inr ⟨_, rfl, ?_⟩
                        rcases q767 with ⟨rfl, a768⟩ | ⟨rfl, a769⟩
                        · have _q : True := trivial
                          refine jx_if_ne (pc' := 131) (tg := 144) rfl rfl rfl (by decide) (by decide) (fun h770 => ?_) (fun h770 => ?_)
                          · have _q := h770
                            refine jx_ar (pc' := 145) (st' := [.int (i32 (0))]) rfl rfl rfl rfl ?_
                            refine jx_ld (pc' := 146) (l' := jSto1 L764 3 (.int (i32 (0)))) (st' := []) rfl rfl ?_
                            obtain ⟨L771, eL771⟩ : ∃ q, q = jSto1 L764 3 (.int (i32 (0))) := ⟨_, rfl⟩
                            rw [← eL771]
                            have gL771_0 : jGet L771 0 = some (.ref 66) := eL771 ▸ jg_ne (by decide) gL764_0 rfl
                            have gL771_1 : jGet L771 1 = some (.int (i32 (r590))) := eL771 ▸ jg_ne (by decide) gL764_1 rfl
                            have gL771_2 : jGet L771 2 = some (.int (i32 (0))) := eL771 ▸ jg_ne (by decide) gL764_2 rfl
                            have gL771_3 : jGet L771 3 = some (.int (i32 (0))) := eL771 ▸ jg_eq
                            refine jx_ld (pc' := 147) (l' := L771) (st' := [.ref 66]) rfl (jl_aloadn gL771_0) ?_
                            refine jx_vr (pc' := 150) (as := []) (st := []) rfl rfl rfl rfl ⟨rfl, rfl, Nat.le_of_ble_eq_true rfl⟩ rfl rfl (c_bad (dd := d) (hd := by omega) (hW := hW761)  (fk := fk2_742) (e_fk := show G738 16 = fk2_742 from (e747))    ) (fun o V' hq => ?_)
                            obtain ⟨r772, rfl, rfl, b773, q774⟩ := hq
                            refine .inr ⟨_, rfl, ?_⟩
                            rcases q774 with ⟨rfl, a775⟩ | ⟨rfl, a776⟩
                            · have _q : True := trivial
                              refine jx_if_ne (pc' := 153) (tg := 212) rfl rfl rfl (by decide) (by decide) (fun h777 => ?_) (fun h777 => ?_)
                              · have _q := h777
                                exact at_212p L771 G738 A760 (r590) (0) (at2_740) (fk2_742) (sy2_591) (na2_592) gL771_0 gL771_1 gL771_2 hW761 hF762 ((e745)) ((e747)) (((hF744.1 19 rfl).trans ((hF628.1 19 rfl).trans (e597)))) (((hF744.1 28 rfl).trans ((hF628.1 28 rfl).trans (e598)))) (((hF744.1 9 rfl).trans ((hF628.1 9 rfl).trans ((hF595.1 9 rfl).trans ((hF566.1 9 rfl).trans (e_ln)))))) (((hF744.1 29 rfl).trans ((hF628.1 29 rfl).trans ((hF595.1 29 rfl).trans ((hF566.1 29 rfl).trans (e_vi)))))) (((hF744.1 46 rfl).trans ((hF628.1 46 rfl).trans ((hF595.1 46 rfl).trans ((hF566.1 46 rfl).trans (e_pc0)))))) (((hF744.1 31 rfl).trans ((hF628.1 31 rfl).trans ((hF595.1 31 rfl).trans ((hF566.1 31 rfl).trans (e_nd)))))) (by omega) (by omega) (by omega) (by omega) (by omega) (by omega) (by omega) (by omega) (by omega)
                              · have _q := h777
                                exact absurd h777 (by omega)
                            · have _q : True := trivial
                              exfalso
                              omega
                          · have _q := h770
                            exact absurd h770 (by omega)
                        · have _q : True := trivial
                          exfalso
                          omega
                      · have _q : True := trivial
                        refine jx_ld (pc' := 110) (l' := L611) (st' := [.ref 66]) rfl (jl_aloadn gL611_0) ?_
                        refine jr_get (pc' := 113) (i := 47) (v := .ref 96) rfl rfl (by decide) rfl rfl ?_
                        refine jx_ld (pc' := 114) (l' := L611) (st' := [.ref 66, .ref 96]) rfl (jl_aloadn gL611_0) ?_
                        refine jr_get (pc' := 117) (i := 46) (v := .int (i32 (pc0))) rfl rfl (by decide) (rFv_eq (by decide) (show G738 46 = pc0 from ((hF744.1 46 rfl).trans ((hF628.1 46 rfl).trans ((hF595.1 46 rfl).trans ((hF566.1 46 rfl).trans (e_pc0))))))) rfl ?_
                        refine jx_ld (pc' := 118) (l' := L611) (st' := [.ref 66, .int (i32 (pc0)), .ref 96]) rfl (jl_aloadn gL611_0) ?_
                        refine jr_get (pc' := 121) (i := 19) (v := .int (i32 (sy2_591))) rfl rfl (by decide) (rFv_eq (by decide) (show G738 19 = sy2_591 from ((hF744.1 19 rfl).trans ((hF628.1 19 rfl).trans (e597))))) rfl ?_
                        refine jr_st (pc' := 122) (i := 29) (m := 25) (z := pc0) (y := sy2_591) rfl (by decide) rfl (by decide) (by omega) (by omega) rfl ?_
                        have hW779 : Wk G738 (uA A739 29 (pc0).toNat (sy2_591)) := Wk_a hW743 (show (0 : Int) ≤ sy2_591 by omega) (show sy2_591 ≤ (202 : Int) by omega)
                        have hF780 := Fr_a (z := sy2_591) (k := 29) (n := (pc0).toNat) hF751 (by decide)
                        obtain ⟨A778, eA778⟩ : ∃ q, q = uA A739 29 (pc0).toNat (sy2_591) := ⟨_, rfl⟩
                        rw [← eA778]
                        rw [← eA778] at hW779 hF780
                        have q781 : A778 29 (pc0).toNat = sy2_591 := by rw [eA778]; exact uA_eq
                        refine jx_ar (pc' := 123) (st' := [.int (i32 (0))]) rfl rfl rfl rfl ?_
                        refine jx_ld (pc' := 124) (l' := jSto1 L611 2 (.int (i32 (0)))) (st' := []) rfl rfl ?_
                        obtain ⟨L782, eL782⟩ : ∃ q, q = jSto1 L611 2 (.int (i32 (0))) := ⟨_, rfl⟩
                        rw [← eL782]
                        have gL782_0 : jGet L782 0 = some (.ref 66) := eL782 ▸ jg_ne (by decide) gL611_0 rfl
                        have gL782_1 : jGet L782 1 = some (.int (i32 (r590))) := eL782 ▸ jg_ne (by decide) gL611_1 rfl
                        have gL782_2 : jGet L782 2 = some (.int (i32 (0))) := eL782 ▸ jg_eq
                        refine jx_ld (pc' := 125) (l' := L782) (st' := [.ref 66]) rfl (jl_aloadn gL782_0) ?_
                        refine jx_vr (pc' := 128) (as := []) (st := []) rfl rfl rfl rfl ⟨rfl, rfl, Nat.le_of_ble_eq_true rfl⟩ rfl rfl (c_bad (dd := d) (hd := by omega) (hW := hW779)  (fk := fk2_742) (e_fk := show G738 16 = fk2_742 from (e747))    ) (fun o V' hq => ?_)
                        obtain ⟨r783, rfl, rfl, b784, q785⟩ := hq
                        refine .inr ⟨_, rfl, ?_⟩
                        rcases q785 with ⟨rfl, a786⟩ | ⟨rfl, a787⟩
                        · have _q : True := trivial
                          exfalso
                          omega
                        · have _q : True := trivial
                          refine jx_if_ne (pc' := 131) (tg := 144) rfl rfl rfl (by decide) (by decide) (fun h788 => ?_) (fun h788 => ?_)
                          · have _q := h788
                            exact absurd h788 (by omega)
                          · have _q := h788
                            refine jx_ld (pc' := 132) (l' := L782) (st' := [.ref 66]) rfl (jl_aloadn gL782_0) ?_
                            refine jx_ar (pc' := 134) (st' := [.int (i32 (41)), .ref 66]) rfl rfl rfl rfl ?_
                            have b789 : (-2147483648 : Int) ≤ G738 13 ∧ G738 13 ≤ 2147483647 := hW743.1 13
                            refine jx_vr (pc' := 137) (as := [.int (i32 (41))]) (st := []) rfl rfl rfl rfl ⟨rfl, rfl, Nat.le_of_ble_eq_true rfl⟩ rfl rfl (c_is (dd := d) (hd := by omega) (hW := hW779) (k := 41) (tk := tk2_741) (e_tk := show G738 11 = tk2_741 from (e746)) (tn := G738 13) (e_tn := show G738 13 = G738 13 from rfl)  (h_k := ⟨(by decide), (by decide)⟩)  ) (fun o V' hq => ?_)
                            obtain ⟨r790, rfl, rfl, b791, q792⟩ := hq
                            refine .inr ⟨_, rfl, ?_⟩
                            rcases q792 with ⟨rfl, a793, a794, a795⟩ | rfl
                            · have _q : True := trivial
                              refine jx_if_ne (pc' := 140) (tg := 144) rfl rfl rfl (by decide) (by decide) (fun h796 => ?_) (fun h796 => ?_)
                              · have _q := h796
                                refine jx_ar (pc' := 145) (st' := [.int (i32 (0))]) rfl rfl rfl rfl ?_
                                refine jx_ld (pc' := 146) (l' := jSto1 L782 3 (.int (i32 (0)))) (st' := []) rfl rfl ?_
                                obtain ⟨L797, eL797⟩ : ∃ q, q = jSto1 L782 3 (.int (i32 (0))) := ⟨_, rfl⟩
                                rw [← eL797]
                                have gL797_0 : jGet L797 0 = some (.ref 66) := eL797 ▸ jg_ne (by decide) gL782_0 rfl
                                have gL797_1 : jGet L797 1 = some (.int (i32 (r590))) := eL797 ▸ jg_ne (by decide) gL782_1 rfl
                                have gL797_2 : jGet L797 2 = some (.int (i32 (0))) := eL797 ▸ jg_ne (by decide) gL782_2 rfl
                                have gL797_3 : jGet L797 3 = some (.int (i32 (0))) := eL797 ▸ jg_eq
                                exact at_146 _ L797 G738 A778 (r590) (0) (0) (at2_740) (tk2_741) (fk2_742) (sy2_591) (na2_592) (sy2_591) rfl gL797_0 gL797_1 gL797_2 gL797_3 hW779 hF780 ((e745)) ((e746)) ((e747)) (((hF744.1 19 rfl).trans ((hF628.1 19 rfl).trans (e597)))) (((hF744.1 28 rfl).trans ((hF628.1 28 rfl).trans (e598)))) ((q781)) (((hF744.1 9 rfl).trans ((hF628.1 9 rfl).trans ((hF595.1 9 rfl).trans ((hF566.1 9 rfl).trans (e_ln)))))) (((hF744.1 29 rfl).trans ((hF628.1 29 rfl).trans ((hF595.1 29 rfl).trans ((hF566.1 29 rfl).trans (e_vi)))))) (((hF744.1 46 rfl).trans ((hF628.1 46 rfl).trans ((hF595.1 46 rfl).trans ((hF566.1 46 rfl).trans (e_pc0)))))) (((hF744.1 31 rfl).trans ((hF628.1 31 rfl).trans ((hF595.1 31 rfl).trans ((hF566.1 31 rfl).trans (e_nd)))))) (by omega) (by omega) (by omega) (by omega) (by omega) (by omega) (by omega) (by omega) (by omega) (by omega) (by omega) (by omega) (by omega) (by omega)
                              · have _q := h796
                                exact absurd h796 (by omega)
                            · have _q : True := trivial
                              refine jx_if_ne (pc' := 140) (tg := 144) rfl rfl rfl (by decide) (by decide) (fun h798 => ?_) (fun h798 => ?_)
                              · have _q := h798
                                exact absurd h798 (by omega)
                              · have _q := h798
                                refine jx_ar (pc' := 141) (st' := [.int (i32 (1))]) rfl rfl rfl rfl ?_
                                refine jx_go (tg := 145) rfl rfl ?_
                                refine jx_ld (pc' := 146) (l' := jSto1 L782 3 (.int (i32 (1)))) (st' := []) rfl rfl ?_
                                obtain ⟨L799, eL799⟩ : ∃ q, q = jSto1 L782 3 (.int (i32 (1))) := ⟨_, rfl⟩
                                rw [← eL799]
                                have gL799_0 : jGet L799 0 = some (.ref 66) := eL799 ▸ jg_ne (by decide) gL782_0 rfl
                                have gL799_1 : jGet L799 1 = some (.int (i32 (r590))) := eL799 ▸ jg_ne (by decide) gL782_1 rfl
                                have gL799_2 : jGet L799 2 = some (.int (i32 (0))) := eL799 ▸ jg_ne (by decide) gL782_2 rfl
                                have gL799_3 : jGet L799 3 = some (.int (i32 (1))) := eL799 ▸ jg_eq
                                exact at_146 _ L799 G738 A778 (r590) (0) (1) (at2_740) (tk2_741) (fk2_742) (sy2_591) (na2_592) (sy2_591) rfl gL799_0 gL799_1 gL799_2 gL799_3 hW779 hF780 ((e745)) ((e746)) ((e747)) (((hF744.1 19 rfl).trans ((hF628.1 19 rfl).trans (e597)))) (((hF744.1 28 rfl).trans ((hF628.1 28 rfl).trans (e598)))) ((q781)) (((hF744.1 9 rfl).trans ((hF628.1 9 rfl).trans ((hF595.1 9 rfl).trans ((hF566.1 9 rfl).trans (e_ln)))))) (((hF744.1 29 rfl).trans ((hF628.1 29 rfl).trans ((hF595.1 29 rfl).trans ((hF566.1 29 rfl).trans (e_vi)))))) (((hF744.1 46 rfl).trans ((hF628.1 46 rfl).trans ((hF595.1 46 rfl).trans ((hF566.1 46 rfl).trans (e_pc0)))))) (((hF744.1 31 rfl).trans ((hF628.1 31 rfl).trans ((hF595.1 31 rfl).trans ((hF566.1 31 rfl).trans (e_nd)))))) (by omega) (by omega) (by omega) (by omega) (by omega) (by omega) (by omega) (by omega) (by omega) (by omega) (by omega) (by omega) (by omega) (by omega)
                    · have _q : True := trivial
                      refine jx_vr (pc' := 109) (as := [.int (i32 (0))]) (st := []) rfl rfl rfl rfl ⟨rfl, rfl, Nat.le_of_ble_eq_true rfl⟩ rfl rfl (c_need (dd := d) (hd := by omega) (hW := hW627) (g := 0) (ln := ln) (e_ln := show G622 9 = ln from ((hF628.1 9 rfl).trans ((hF595.1 9 rfl).trans ((hF566.1 9 rfl).trans (e_ln))))) (le := le) (e_le := show A623 4 (ln).toNat = le from (congrFun ((hF628.2 4 rfl).trans (((congrFun eA618 4).trans (uA_ne (by decide))).trans ((hF595.2 4 rfl).trans (hF566.2 4 rfl)))) _).trans (e_le)) (at0 := at2_624) (e_at0 := show G622 10 = at2_624 from (e629)) (fk := fk2_626) (e_fk := show G622 16 = fk2_626 from (e631)) (tk0 := tk2_625) (e_tk0 := show G622 11 = tk2_625 from (e630))  (h_g := ⟨(by decide), (by decide)⟩)  (p_0 := by omega)) (fun o V' hq => ?_)
                      obtain ⟨G800, A801, at2_802, tk2_803, fk2_804, rfl, rfl, hW805, hF806, e807, e808, e809, p810, p811, q812⟩ := hq
                      have hF813 := Fr_tr hF635 hF806 (Fr_sub (by decide)) (Fr_sub (by decide))
                      have bat2_802 : (0 : Int) ≤ at2_802 ∧ at2_802 ≤ 3002 := e807 ▸ hW805.1 10
                      have ztk2_803 := tz_b tk2_803
                      have btk2_803 : (0 : Int) ≤ tk2_803 ∧ tk2_803 ≤ 5 := e808 ▸ hW805.1 11
                      have bfk2_804 : (0 : Int) ≤ fk2_804 ∧ fk2_804 ≤ 6 := e809 ▸ hW805.1 16
                      refine .inl ⟨rfl, ?_⟩
                      rcases q812 with ⟨a814, a815, a816, a817⟩ | ⟨a818, a819, a820, a821⟩
                      · have _q : True := trivial
                        refine jx_ld (pc' := 110) (l' := L611) (st' := [.ref 66]) rfl (jl_aloadn gL611_0) ?_
                        refine jr_get (pc' := 113) (i := 47) (v := .ref 96) rfl rfl (by decide) rfl rfl ?_
                        refine jx_ld (pc' := 114) (l' := L611) (st' := [.ref 66, .ref 96]) rfl (jl_aloadn gL611_0) ?_
                        refine jr_get (pc' := 117) (i := 46) (v := .int (i32 (pc0))) rfl rfl (by decide) (rFv_eq (by decide) (show G800 46 = pc0 from ((hF806.1 46 rfl).trans ((hF628.1 46 rfl).trans ((hF595.1 46 rfl).trans ((hF566.1 46 rfl).trans (e_pc0))))))) rfl ?_
                        refine jx_ld (pc' := 118) (l' := L611) (st' := [.ref 66, .int (i32 (pc0)), .ref 96]) rfl (jl_aloadn gL611_0) ?_
                        refine jr_get (pc' := 121) (i := 19) (v := .int (i32 (sy2_591))) rfl rfl (by decide) (rFv_eq (by decide) (show G800 19 = sy2_591 from ((hF806.1 19 rfl).trans ((hF628.1 19 rfl).trans (e597))))) rfl ?_
                        refine jr_st (pc' := 122) (i := 29) (m := 25) (z := pc0) (y := sy2_591) rfl (by decide) rfl (by decide) (by omega) (by omega) rfl ?_
                        have hW823 : Wk G800 (uA A801 29 (pc0).toNat (sy2_591)) := Wk_a hW805 (show (0 : Int) ≤ sy2_591 by omega) (show sy2_591 ≤ (202 : Int) by omega)
                        have hF824 := Fr_a (z := sy2_591) (k := 29) (n := (pc0).toNat) hF813 (by decide)
                        obtain ⟨A822, eA822⟩ : ∃ q, q = uA A801 29 (pc0).toNat (sy2_591) := ⟨_, rfl⟩
                        rw [← eA822]
                        rw [← eA822] at hW823 hF824
                        have q825 : A822 29 (pc0).toNat = sy2_591 := by rw [eA822]; exact uA_eq
                        refine jx_ar (pc' := 123) (st' := [.int (i32 (0))]) rfl rfl rfl rfl ?_
                        refine jx_ld (pc' := 124) (l' := jSto1 L611 2 (.int (i32 (0)))) (st' := []) rfl rfl ?_
                        obtain ⟨L826, eL826⟩ : ∃ q, q = jSto1 L611 2 (.int (i32 (0))) := ⟨_, rfl⟩
                        rw [← eL826]
                        have gL826_0 : jGet L826 0 = some (.ref 66) := eL826 ▸ jg_ne (by decide) gL611_0 rfl
                        have gL826_1 : jGet L826 1 = some (.int (i32 (r590))) := eL826 ▸ jg_ne (by decide) gL611_1 rfl
                        have gL826_2 : jGet L826 2 = some (.int (i32 (0))) := eL826 ▸ jg_eq
                        refine jx_ld (pc' := 125) (l' := L826) (st' := [.ref 66]) rfl (jl_aloadn gL826_0) ?_
                        refine jx_vr (pc' := 128) (as := []) (st := []) rfl rfl rfl rfl ⟨rfl, rfl, Nat.le_of_ble_eq_true rfl⟩ rfl rfl (c_bad (dd := d) (hd := by omega) (hW := hW823)  (fk := fk2_804) (e_fk := show G800 16 = fk2_804 from (e809))    ) (fun o V' hq => ?_)
                        obtain ⟨r827, rfl, rfl, b828, q829⟩ := hq
                        refine .inr ⟨_, rfl, ?_⟩
                        rcases q829 with ⟨rfl, a830⟩ | ⟨rfl, a831⟩
                        · have _q : True := trivial
                          refine jx_if_ne (pc' := 131) (tg := 144) rfl rfl rfl (by decide) (by decide) (fun h832 => ?_) (fun h832 => ?_)
                          · have _q := h832
                            refine jx_ar (pc' := 145) (st' := [.int (i32 (0))]) rfl rfl rfl rfl ?_
                            refine jx_ld (pc' := 146) (l' := jSto1 L826 3 (.int (i32 (0)))) (st' := []) rfl rfl ?_
                            obtain ⟨L833, eL833⟩ : ∃ q, q = jSto1 L826 3 (.int (i32 (0))) := ⟨_, rfl⟩
                            rw [← eL833]
                            have gL833_0 : jGet L833 0 = some (.ref 66) := eL833 ▸ jg_ne (by decide) gL826_0 rfl
                            have gL833_1 : jGet L833 1 = some (.int (i32 (r590))) := eL833 ▸ jg_ne (by decide) gL826_1 rfl
                            have gL833_2 : jGet L833 2 = some (.int (i32 (0))) := eL833 ▸ jg_ne (by decide) gL826_2 rfl
                            have gL833_3 : jGet L833 3 = some (.int (i32 (0))) := eL833 ▸ jg_eq
                            refine jx_ld (pc' := 147) (l' := L833) (st' := [.ref 66]) rfl (jl_aloadn gL833_0) ?_
                            refine jx_vr (pc' := 150) (as := []) (st := []) rfl rfl rfl rfl ⟨rfl, rfl, Nat.le_of_ble_eq_true rfl⟩ rfl rfl (c_bad (dd := d) (hd := by omega) (hW := hW823)  (fk := fk2_804) (e_fk := show G800 16 = fk2_804 from (e809))    ) (fun o V' hq => ?_)
                            obtain ⟨r834, rfl, rfl, b835, q836⟩ := hq
                            refine .inr ⟨_, rfl, ?_⟩
                            rcases q836 with ⟨rfl, a837⟩ | ⟨rfl, a838⟩
                            · have _q : True := trivial
                              refine jx_if_ne (pc' := 153) (tg := 212) rfl rfl rfl (by decide) (by decide) (fun h839 => ?_) (fun h839 => ?_)
                              · have _q := h839
                                exact at_212p L833 G800 A822 (r590) (0) (at2_802) (fk2_804) (sy2_591) (na2_592) gL833_0 gL833_1 gL833_2 hW823 hF824 ((e807)) ((e809)) (((hF806.1 19 rfl).trans ((hF628.1 19 rfl).trans (e597)))) (((hF806.1 28 rfl).trans ((hF628.1 28 rfl).trans (e598)))) (((hF806.1 9 rfl).trans ((hF628.1 9 rfl).trans ((hF595.1 9 rfl).trans ((hF566.1 9 rfl).trans (e_ln)))))) (((hF806.1 29 rfl).trans ((hF628.1 29 rfl).trans ((hF595.1 29 rfl).trans ((hF566.1 29 rfl).trans (e_vi)))))) (((hF806.1 46 rfl).trans ((hF628.1 46 rfl).trans ((hF595.1 46 rfl).trans ((hF566.1 46 rfl).trans (e_pc0)))))) (((hF806.1 31 rfl).trans ((hF628.1 31 rfl).trans ((hF595.1 31 rfl).trans ((hF566.1 31 rfl).trans (e_nd)))))) (by omega) (by omega) (by omega) (by omega) (by omega) (by omega) (by omega) (by omega) (by omega)
                              · have _q := h839
                                exact absurd h839 (by omega)
                            · have _q : True := trivial
                              exfalso
                              omega
                          · have _q := h832
                            exact absurd h832 (by omega)
                        · have _q : True := trivial
                          exfalso
                          omega
                      · have _q : True := trivial
                        exfalso
                        omega
                · have _q := h617
                  exact absurd h617 (by omega)
            · have _q : True := trivial
              refine jx_ld (pc' := 76) (l' := jSto1 [(0, .ref 66)] 1 (.int (i32 (r590)))) (st' := []) rfl rfl ?_
              obtain ⟨L840, eL840⟩ : ∃ q, q = jSto1 [(0, .ref 66)] 1 (.int (i32 (r590))) := ⟨_, rfl⟩
              rw [← eL840]
              have gL840_0 : jGet L840 0 = some (.ref 66) := eL840 ▸ jg_ne (by decide) (rfl : jGet [(0, .ref 66)] 0 = some (.ref 66)) rfl
              have gL840_1 : jGet L840 1 = some (.int (i32 (r590))) := eL840 ▸ jg_eq
              refine jx_ld (pc' := 77) (l' := L840) (st' := [.ref 66]) rfl (jl_aloadn gL840_0) ?_
              refine jx_vr (pc' := 80) (as := []) (st := []) rfl rfl rfl rfl ⟨rfl, rfl, Nat.le_of_ble_eq_true rfl⟩ rfl rfl (c_bad (dd := d) (hd := by omega) (hW := hW594)  (fk := fk2_593) (e_fk := show G588 16 = fk2_593 from (e599))    ) (fun o V' hq => ?_)
              obtain ⟨r841, rfl, rfl, b842, q843⟩ := hq
              refine .inr ⟨_, rfl, ?_⟩
              rcases q843 with ⟨rfl, a844⟩ | ⟨rfl, a845⟩
              · have _q : True := trivial
                refine jx_if_eq (pc' := 83) (tg := 84) rfl rfl rfl (by decide) (by decide) (fun h846 => ?_) (fun h846 => ?_)
                · have _q := h846
                  exact absurd h846 (by omega)
                · have _q := h846
                  refine jx_rt (v := none) rfl rfl rfl rfl rfl rfl ?_
                  exact ⟨_, _, ln, at2_563, fk2_593, nd, sy2_591, na2_592, vi, A 3 (ln).toNat, pc0, rfl, rfl, hW594, hF601, ((hF595.1 9 rfl).trans ((hF566.1 9 rfl).trans (e_ln))), ((hF595.1 10 rfl).trans (e567)), (e599), ((hF595.1 31 rfl).trans ((hF566.1 31 rfl).trans (e_nd))), (e597), (e598), ((hF595.1 29 rfl).trans ((hF566.1 29 rfl).trans (e_vi))), (congrFun ((hF595.2 3 rfl).trans (hF566.2 3 rfl)) _), ((hF595.1 46 rfl).trans ((hF566.1 46 rfl).trans (e_pc0))), by omega, by omega, by omega, by omega, by first | exact Or.inl (by omega) | exact Or.inr ((⟨by omega, by omega, by omega, by omega, by omega⟩))⟩
              · have _q : True := trivial
                exfalso
                omega
          · have _q := h587
            refine jx_ld (pc' := 59) (l' := [(0, .ref 66)]) (st' := [.ref 66]) rfl (jl_aloadn rfl) ?_
            refine jx_ar (pc' := 61) (st' := [.int (i32 (6)), .ref 66]) rfl rfl rfl rfl ?_
            refine jx_ld (pc' := 62) (l' := [(0, .ref 66)]) (st' := [.ref 66, .int (i32 (6)), .ref 66]) rfl (jl_aloadn rfl) ?_
            have b847 : (-3000 : Int) ≤ G561 12 ∧ G561 12 ≤ 3002 := hW565.1 12
            refine jr_get (pc' := 65) (i := 12) (v := .int (i32 (G561 12))) rfl rfl (by decide) rfl rfl ?_
            refine jx_vr (pc' := 68) (as := [.int (i32 (6)), .int (i32 (G561 12))]) (st := []) rfl rfl rfl rfl ⟨rfl, rfl, Nat.le_of_ble_eq_true rfl⟩ rfl rfl (c_fail (dd := d) (hd := by omega) (hW := hW565) (kind := 6) (place := G561 12) (fk := fk) (e_fk := show G561 16 = fk from ((hF566.1 16 rfl).trans (e_fk)))  (h_kind := ⟨(by decide), (by decide)⟩) (h_place := ⟨(Int.le_trans (by decide : (-2147483648 : Int) ≤ -3000) b847.1), (Int.le_trans b847.2 (by decide : (3002 : Int) ≤ 2147483647))⟩)  (p_0 := by omega) (p_1 := by omega)) (fun o V' hq => ?_)
            obtain ⟨G848, A849, fk2_850, rfl, rfl, hW851, hF852, e853, p854, -⟩ := hq
            have hF856 := Fr_tr hF573 hF852 (Fr_sub (by decide)) (Fr_sub (by decide))
            have bfk2_850 : (0 : Int) ≤ fk2_850 ∧ fk2_850 ≤ 6 := e853 ▸ hW851.1 16
            refine .inl ⟨rfl, ?_⟩
            refine jx_ld (pc' := 69) (l' := [(0, .ref 66)]) (st' := [.ref 66]) rfl (jl_aloadn rfl) ?_
            refine jx_ar (pc' := 71) (st' := [.int (i32 (14)), .ref 66]) rfl rfl rfl rfl ?_
            refine jx_ar (pc' := 72) (st' := [.int (i32 (0)), .int (i32 (14)), .ref 66]) rfl rfl rfl rfl ?_
            refine jx_vr (pc' := 75) (as := [.int (i32 (14)), .int (i32 (0))]) (st := []) rfl rfl rfl rfl ⟨rfl, rfl, Nat.le_of_ble_eq_true rfl⟩ rfl rfl (c_newName (dd := d) (hd := by omega) (hW := hW851) (kind := 14) (many := 0) (sy := sy) (e_sy := show G848 19 = sy from ((hF852.1 19 rfl).trans ((hF566.1 19 rfl).trans (e_sy)))) (na := na) (e_na := show G848 28 = na from ((hF852.1 28 rfl).trans ((hF566.1 28 rfl).trans (e_na)))) (fk := fk2_850) (e_fk := show G848 16 = fk2_850 from (e853))  (h_kind := ⟨(by decide), (by decide)⟩) (h_many := ⟨(by decide), (by decide)⟩)  (p_0 := by omega) (p_1 := by omega)) (fun o V' hq => ?_)
            obtain ⟨G857, A858, r859, sy2_860, na2_861, fk2_862, rfl, rfl, hW863, hF864, b865, e866, e867, e868, q869⟩ := hq
            have hF870 := Fr_tr hF856 hF864 (Fr_sub (by decide)) (Fr_sub (by decide))
            have bsy2_860 : (0 : Int) ≤ sy2_860 ∧ sy2_860 ≤ 202 := e866 ▸ hW863.1 19
            have bna2_861 : (0 : Int) ≤ na2_861 ∧ na2_861 ≤ 200 := e867 ▸ hW863.1 28
            have bfk2_862 : (0 : Int) ≤ fk2_862 ∧ fk2_862 ≤ 6 := e868 ▸ hW863.1 16
            refine .inr ⟨_, rfl, ?_⟩
            rcases q869 with ⟨a871, a872, a873, a874, a875⟩ | ⟨a876, a877, a878, a879⟩
            · have _q : True := trivial
              exfalso
              omega
            · have _q : True := trivial
              refine jx_ld (pc' := 76) (l' := jSto1 [(0, .ref 66)] 1 (.int (i32 (r859)))) (st' := []) rfl rfl ?_
              obtain ⟨L880, eL880⟩ : ∃ q, q = jSto1 [(0, .ref 66)] 1 (.int (i32 (r859))) := ⟨_, rfl⟩
              rw [← eL880]
              have gL880_0 : jGet L880 0 = some (.ref 66) := eL880 ▸ jg_ne (by decide) (rfl : jGet [(0, .ref 66)] 0 = some (.ref 66)) rfl
              have gL880_1 : jGet L880 1 = some (.int (i32 (r859))) := eL880 ▸ jg_eq
              refine jx_ld (pc' := 77) (l' := L880) (st' := [.ref 66]) rfl (jl_aloadn gL880_0) ?_
              refine jx_vr (pc' := 80) (as := []) (st := []) rfl rfl rfl rfl ⟨rfl, rfl, Nat.le_of_ble_eq_true rfl⟩ rfl rfl (c_bad (dd := d) (hd := by omega) (hW := hW863)  (fk := fk2_862) (e_fk := show G857 16 = fk2_862 from (e868))    ) (fun o V' hq => ?_)
              obtain ⟨r881, rfl, rfl, b882, q883⟩ := hq
              refine .inr ⟨_, rfl, ?_⟩
              rcases q883 with ⟨rfl, a884⟩ | ⟨rfl, a885⟩
              · have _q : True := trivial
                refine jx_if_eq (pc' := 83) (tg := 84) rfl rfl rfl (by decide) (by decide) (fun h886 => ?_) (fun h886 => ?_)
                · have _q := h886
                  exact absurd h886 (by omega)
                · have _q := h886
                  refine jx_rt (v := none) rfl rfl rfl rfl rfl rfl ?_
                  exact ⟨_, _, ln, at2_563, fk2_862, nd, sy2_860, na2_861, vi, A 3 (ln).toNat, pc0, rfl, rfl, hW863, hF870, ((hF864.1 9 rfl).trans ((hF852.1 9 rfl).trans ((hF566.1 9 rfl).trans (e_ln)))), ((hF864.1 10 rfl).trans ((hF852.1 10 rfl).trans (e567))), (e868), ((hF864.1 31 rfl).trans ((hF852.1 31 rfl).trans ((hF566.1 31 rfl).trans (e_nd)))), (e866), (e867), ((hF864.1 29 rfl).trans ((hF852.1 29 rfl).trans ((hF566.1 29 rfl).trans (e_vi)))), (congrFun ((hF864.2 3 rfl).trans ((hF852.2 3 rfl).trans (hF566.2 3 rfl))) _), ((hF864.1 46 rfl).trans ((hF852.1 46 rfl).trans ((hF566.1 46 rfl).trans (e_pc0)))), by omega, by omega, by omega, by omega, by first | exact Or.inl (by omega) | exact Or.inr ((⟨by omega, by omega, by omega, by omega, by omega⟩))⟩
              · have _q : True := trivial
                exfalso
                omega
    · have _q := h580
      refine jx_ld (pc' := 34) (l' := [(0, .ref 66)]) (st' := [.ref 66]) rfl (jl_aloadn rfl) ?_
      refine jx_ar (pc' := 35) (st' := [.int (i32 (2)), .ref 66]) rfl rfl rfl rfl ?_
      refine jx_ld (pc' := 36) (l' := [(0, .ref 66)]) (st' := [.ref 66, .int (i32 (2)), .ref 66]) rfl (jl_aloadn rfl) ?_
      have b887 : (-3000 : Int) ≤ G561 12 ∧ G561 12 ≤ 3002 := hW565.1 12
      refine jr_get (pc' := 39) (i := 12) (v := .int (i32 (G561 12))) rfl rfl (by decide) rfl rfl ?_
      refine jx_vr (pc' := 42) (as := [.int (i32 (2)), .int (i32 (G561 12))]) (st := []) rfl rfl rfl rfl ⟨rfl, rfl, Nat.le_of_ble_eq_true rfl⟩ rfl rfl (c_fail (dd := d) (hd := by omega) (hW := hW565) (kind := 2) (place := G561 12) (fk := fk) (e_fk := show G561 16 = fk from ((hF566.1 16 rfl).trans (e_fk)))  (h_kind := ⟨(by decide), (by decide)⟩) (h_place := ⟨(Int.le_trans (by decide : (-2147483648 : Int) ≤ -3000) b887.1), (Int.le_trans b887.2 (by decide : (3002 : Int) ≤ 2147483647))⟩)  (p_0 := by omega) (p_1 := by omega)) (fun o V' hq => ?_)
      obtain ⟨G888, A889, fk2_890, rfl, rfl, hW891, hF892, e893, p894, -⟩ := hq
      have hF896 := Fr_tr hF573 hF892 (Fr_sub (by decide)) (Fr_sub (by decide))
      have bfk2_890 : (0 : Int) ≤ fk2_890 ∧ fk2_890 ≤ 6 := e893 ▸ hW891.1 16
      refine .inl ⟨rfl, ?_⟩
      refine jx_ld (pc' := 43) (l' := [(0, .ref 66)]) (st' := [.ref 66]) rfl (jl_aloadn rfl) ?_
      refine jx_vr (pc' := 46) (as := []) (st := []) rfl rfl rfl rfl ⟨rfl, rfl, Nat.le_of_ble_eq_true rfl⟩ rfl rfl (c_bad (dd := d) (hd := by omega) (hW := hW891)  (fk := fk2_890) (e_fk := show G888 16 = fk2_890 from (e893))    ) (fun o V' hq => ?_)
      obtain ⟨r897, rfl, rfl, b898, q899⟩ := hq
      refine .inr ⟨_, rfl, ?_⟩
      rcases q899 with ⟨rfl, a900⟩ | ⟨rfl, a901⟩
      · have _q : True := trivial
        refine jx_if_ne (pc' := 49) (tg := 68) rfl rfl rfl (by decide) (by decide) (fun h902 => ?_) (fun h902 => ?_)
        · have _q := h902
          refine jx_ld (pc' := 69) (l' := [(0, .ref 66)]) (st' := [.ref 66]) rfl (jl_aloadn rfl) ?_
          refine jx_ar (pc' := 71) (st' := [.int (i32 (14)), .ref 66]) rfl rfl rfl rfl ?_
          refine jx_ar (pc' := 72) (st' := [.int (i32 (0)), .int (i32 (14)), .ref 66]) rfl rfl rfl rfl ?_
          refine jx_vr (pc' := 75) (as := [.int (i32 (14)), .int (i32 (0))]) (st := []) rfl rfl rfl rfl ⟨rfl, rfl, Nat.le_of_ble_eq_true rfl⟩ rfl rfl (c_newName (dd := d) (hd := by omega) (hW := hW891) (kind := 14) (many := 0) (sy := sy) (e_sy := show G888 19 = sy from ((hF892.1 19 rfl).trans ((hF566.1 19 rfl).trans (e_sy)))) (na := na) (e_na := show G888 28 = na from ((hF892.1 28 rfl).trans ((hF566.1 28 rfl).trans (e_na)))) (fk := fk2_890) (e_fk := show G888 16 = fk2_890 from (e893))  (h_kind := ⟨(by decide), (by decide)⟩) (h_many := ⟨(by decide), (by decide)⟩)  (p_0 := by omega) (p_1 := by omega)) (fun o V' hq => ?_)
          obtain ⟨G903, A904, r905, sy2_906, na2_907, fk2_908, rfl, rfl, hW909, hF910, b911, e912, e913, e914, q915⟩ := hq
          have hF916 := Fr_tr hF896 hF910 (Fr_sub (by decide)) (Fr_sub (by decide))
          have bsy2_906 : (0 : Int) ≤ sy2_906 ∧ sy2_906 ≤ 202 := e912 ▸ hW909.1 19
          have bna2_907 : (0 : Int) ≤ na2_907 ∧ na2_907 ≤ 200 := e913 ▸ hW909.1 28
          have bfk2_908 : (0 : Int) ≤ fk2_908 ∧ fk2_908 ≤ 6 := e914 ▸ hW909.1 16
          refine .inr ⟨_, rfl, ?_⟩
          rcases q915 with ⟨a917, a918, a919, a920, a921⟩ | ⟨a922, a923, a924, a925⟩
          · have _q : True := trivial
            exfalso
            omega
          · have _q : True := trivial
            refine jx_ld (pc' := 76) (l' := jSto1 [(0, .ref 66)] 1 (.int (i32 (r905)))) (st' := []) rfl rfl ?_
            obtain ⟨L926, eL926⟩ : ∃ q, q = jSto1 [(0, .ref 66)] 1 (.int (i32 (r905))) := ⟨_, rfl⟩
            rw [← eL926]
            have gL926_0 : jGet L926 0 = some (.ref 66) := eL926 ▸ jg_ne (by decide) (rfl : jGet [(0, .ref 66)] 0 = some (.ref 66)) rfl
            have gL926_1 : jGet L926 1 = some (.int (i32 (r905))) := eL926 ▸ jg_eq
            refine jx_ld (pc' := 77) (l' := L926) (st' := [.ref 66]) rfl (jl_aloadn gL926_0) ?_
            refine jx_vr (pc' := 80) (as := []) (st := []) rfl rfl rfl rfl ⟨rfl, rfl, Nat.le_of_ble_eq_true rfl⟩ rfl rfl (c_bad (dd := d) (hd := by omega) (hW := hW909)  (fk := fk2_908) (e_fk := show G903 16 = fk2_908 from (e914))    ) (fun o V' hq => ?_)
            obtain ⟨r927, rfl, rfl, b928, q929⟩ := hq
            refine .inr ⟨_, rfl, ?_⟩
            rcases q929 with ⟨rfl, a930⟩ | ⟨rfl, a931⟩
            · have _q : True := trivial
              refine jx_if_eq (pc' := 83) (tg := 84) rfl rfl rfl (by decide) (by decide) (fun h932 => ?_) (fun h932 => ?_)
              · have _q := h932
                exact absurd h932 (by omega)
              · have _q := h932
                refine jx_rt (v := none) rfl rfl rfl rfl rfl rfl ?_
                exact ⟨_, _, ln, at2_563, fk2_908, nd, sy2_906, na2_907, vi, A 3 (ln).toNat, pc0, rfl, rfl, hW909, hF916, ((hF910.1 9 rfl).trans ((hF892.1 9 rfl).trans ((hF566.1 9 rfl).trans (e_ln)))), ((hF910.1 10 rfl).trans ((hF892.1 10 rfl).trans (e567))), (e914), ((hF910.1 31 rfl).trans ((hF892.1 31 rfl).trans ((hF566.1 31 rfl).trans (e_nd)))), (e912), (e913), ((hF910.1 29 rfl).trans ((hF892.1 29 rfl).trans ((hF566.1 29 rfl).trans (e_vi)))), (congrFun ((hF910.2 3 rfl).trans ((hF892.2 3 rfl).trans (hF566.2 3 rfl))) _), ((hF910.1 46 rfl).trans ((hF892.1 46 rfl).trans ((hF566.1 46 rfl).trans (e_pc0)))), by omega, by omega, by omega, by omega, by first | exact Or.inl (by omega) | exact Or.inr ((⟨by omega, by omega, by omega, by omega, by omega⟩))⟩
            · have _q : True := trivial
              exfalso
              omega
        · have _q := h902
          exact absurd h902 (by omega)
      · have _q : True := trivial
        exfalso
        omega
  · have _q := h575
    refine jx_ld (pc' := 13) (l' := [(0, .ref 66)]) (st' := [.ref 66]) rfl (jl_aloadn rfl) ?_
    refine jx_ar (pc' := 14) (st' := [.int (i32 (1)), .ref 66]) rfl rfl rfl rfl ?_
    refine jx_ld (pc' := 15) (l' := [(0, .ref 66)]) (st' := [.ref 66, .int (i32 (1)), .ref 66]) rfl (jl_aloadn rfl) ?_
    have b933 : (-3000 : Int) ≤ G561 12 ∧ G561 12 ≤ 3002 := hW565.1 12
    refine jr_get (pc' := 18) (i := 12) (v := .int (i32 (G561 12))) rfl rfl (by decide) rfl rfl ?_
    refine jx_vr (pc' := 21) (as := [.int (i32 (1)), .int (i32 (G561 12))]) (st := []) rfl rfl rfl rfl ⟨rfl, rfl, Nat.le_of_ble_eq_true rfl⟩ rfl rfl (c_fail (dd := d) (hd := by omega) (hW := hW565) (kind := 1) (place := G561 12) (fk := fk) (e_fk := show G561 16 = fk from ((hF566.1 16 rfl).trans (e_fk)))  (h_kind := ⟨(by decide), (by decide)⟩) (h_place := ⟨(Int.le_trans (by decide : (-2147483648 : Int) ≤ -3000) b933.1), (Int.le_trans b933.2 (by decide : (3002 : Int) ≤ 2147483647))⟩)  (p_0 := by omega) (p_1 := by omega)) (fun o V' hq => ?_)
    obtain ⟨G934, A935, fk2_936, rfl, rfl, hW937, hF938, e939, p940, -⟩ := hq
    have hF942 := Fr_tr hF573 hF938 (Fr_sub (by decide)) (Fr_sub (by decide))
    have bfk2_936 : (0 : Int) ≤ fk2_936 ∧ fk2_936 ≤ 6 := e939 ▸ hW937.1 16
    refine .inl ⟨rfl, ?_⟩
    refine jx_rt (v := none) rfl rfl rfl rfl rfl rfl ?_
    exact ⟨_, _, ln, at2_563, fk2_936, nd, sy, na, vi, A 3 (ln).toNat, pc0, rfl, rfl, hW937, hF942, ((hF938.1 9 rfl).trans ((hF566.1 9 rfl).trans (e_ln))), ((hF938.1 10 rfl).trans (e567)), (e939), ((hF938.1 31 rfl).trans ((hF566.1 31 rfl).trans (e_nd))), ((hF938.1 19 rfl).trans ((hF566.1 19 rfl).trans (e_sy))), ((hF938.1 28 rfl).trans ((hF566.1 28 rfl).trans (e_na))), ((hF938.1 29 rfl).trans ((hF566.1 29 rfl).trans (e_vi))), (congrFun ((hF938.2 3 rfl).trans (hF566.2 3 rfl)) _), ((hF938.1 46 rfl).trans ((hF566.1 46 rfl).trans (e_pc0))), by omega, by omega, by omega, by omega, by first | exact Or.inl (by omega) | exact Or.inr ((⟨by omega, by omega, by omega, by omega, by omega⟩))⟩
set_option maxRecDepth 20000 in
set_option maxHeartbeats 4000000 in
theorem c_readLink {X : jX} {dd : Nat} {c0 c1 : jC} {G : Nat → Int} {A : Nat → Nat → Int} {T : jH} {ln le at0 fk tk0 sy na li vi lk0 : Int} (hd : 8 ≤ dd) (hW : Wk G A) (e_ln : G 9 = ln) (e_le : A 4 (ln).toNat = le) (e_at0 : G 10 = at0) (e_fk : G 16 = fk) (e_tk0 : G 11 = tk0) (e_sy : G 19 = sy) (e_na : G 28 = na) (e_li : G 3 = li) (e_vi : G 29 = vi) (e_lk0 : G 52 = lk0) (p_0 : fk = 0) (p_1 : ln < li) (p_2 : at0 ≤ le) (p_3 : sy ≤ na + 2) (p_4 : vi ≤ sy) : wk X dd 310 [.ref 66] (rV c0 c1 G A T) (fun o V' => ∃ (G' : Nat → Int) (A' : Nat → Nat → Int) (ln2 : Int) (at2 : Int) (fk2 : Int) (sy2 : Int) (na2 : Int) (vi2 : Int), V' = rV c0 c1 G' A' T ∧ o = .inl none ∧ Wk G' A' ∧ Fr [9, 10, 11, 12, 13, 14, 16, 17, 18, 19, 28, 29, 52] [6, 7, 8, 9, 10, 11, 12, 14, 34, 35] G A G' A' ∧ G' 9 = ln2 ∧ G' 10 = at2 ∧ G' 16 = fk2 ∧ G' 19 = sy2 ∧ G' 28 = na2 ∧ G' 29 = vi2 ∧ (at0 ≤ at2) ∧ (at2 ≤ le) ∧ (sy ≤ sy2) ∧ (sy2 ≤ na2 + 2) ∧ (vi2 ≤ sy2) ∧ (ln ≤ ln2) ∧ (ln2 ≤ li) ∧ (((1 ≤ fk2)) ∨ ((fk2 = 0) ∧ (ln2 = ln + 1)))) := by
  obtain ⟨d, rfl⟩ : ∃ d, dd = d + 1 := ⟨dd - 1, by omega⟩
  refine wk_of (e := jm310) rfl (Nat.le_of_ble_eq_true rfl) ?_
  show wj X d jm310 (0, [(0, .ref 66)], [], rV c0 c1 G A T) _
  have hF0 : Fr [9, 10, 11, 12, 13, 14, 16, 17, 18, 19, 28, 29, 52] [6, 7, 8, 9, 10, 11, 12, 14, 34, 35] G A G A := Fr_rf
  have b_ln : (0 : Int) ≤ ln ∧ ln ≤ 3000 := e_ln ▸ hW.1 9
  have b_le : (0 : Int) ≤ le ∧ le ≤ 3000 := e_le ▸ hW.2 4 _
  have b_at0 : (0 : Int) ≤ at0 ∧ at0 ≤ 3002 := e_at0 ▸ hW.1 10
  have b_fk : (0 : Int) ≤ fk ∧ fk ≤ 6 := e_fk ▸ hW.1 16
  have b_tk0 : (0 : Int) ≤ tk0 ∧ tk0 ≤ 5 := e_tk0 ▸ hW.1 11
  have b_sy : (0 : Int) ≤ sy ∧ sy ≤ 202 := e_sy ▸ hW.1 19
  have b_na : (0 : Int) ≤ na ∧ na ≤ 200 := e_na ▸ hW.1 28
  have b_li : (0 : Int) ≤ li ∧ li ≤ 3000 := e_li ▸ hW.1 3
  have b_vi : (0 : Int) ≤ vi ∧ vi ≤ 202 := e_vi ▸ hW.1 29
  have b_lk0 : (0 : Int) ≤ lk0 ∧ lk0 ≤ 12 := e_lk0 ▸ hW.1 52
  have at_156 : ∀ (L : jL) (Gx : Nat → Int) (Ax : Nat → Nat → Int) (s at1 tk1 fk1 sy1 na1 : Int), jGet L 0 = some (.ref 66) → jGet L 1 = some (.int (i32 s)) → Wk Gx Ax → Fr [9, 10, 11, 12, 13, 14, 16, 17, 18, 19, 28, 29, 52] [6, 7, 8, 9, 10, 11, 12, 14, 34, 35] G A Gx Ax → Gx 10 = at1 → Gx 11 = tk1 → Gx 16 = fk1 → Gx 19 = sy1 → Gx 28 = na1 → Gx 9 = ln → Gx 29 = vi → Gx 52 = lk0 → ((-2147483648 : Int) ≤ s ∧ s ≤ 2147483647) → (fk1 = 0) → (at0 ≤ at1) → (at1 ≤ le) → (sy1 = sy + 1) → (sy1 ≤ na1 + 2) → (s = sy) → (lk0 ≤ 11) → wj X d jm310 (156, L, [], rV c0 c1 Gx Ax T) (fun o V' => ∃ (G' : Nat → Int) (A' : Nat → Nat → Int) (ln2 : Int) (at2 : Int) (fk2 : Int) (sy2 : Int) (na2 : Int) (vi2 : Int), V' = rV c0 c1 G' A' T ∧ o = .inl none ∧ Wk G' A' ∧ Fr [9, 10, 11, 12, 13, 14, 16, 17, 18, 19, 28, 29, 52] [6, 7, 8, 9, 10, 11, 12, 14, 34, 35] G A G' A' ∧ G' 9 = ln2 ∧ G' 10 = at2 ∧ G' 16 = fk2 ∧ G' 19 = sy2 ∧ G' 28 = na2 ∧ G' 29 = vi2 ∧ (at0 ≤ at2) ∧ (at2 ≤ le) ∧ (sy ≤ sy2) ∧ (sy2 ≤ na2 + 2) ∧ (vi2 ≤ sy2) ∧ (ln ≤ ln2) ∧ (ln2 ≤ li) ∧ (((1 ≤ fk2)) ∨ ((fk2 = 0) ∧ (ln2 = ln + 1)))) := by
    intro L Gx Ax s at1 tk1 fk1 sy1 na1 gL_0 gL_1 hWx hFx ex_at1 ex_tk1 ex_fk1 ex_sy1 ex_na1 fx_9 fx_29 fx_52 rx_s iv_0 iv_1 iv_2 iv_3 iv_4 iv_5 iv_6
    have b_at1 : (0 : Int) ≤ at1 ∧ at1 ≤ 3002 := ex_at1 ▸ hWx.1 10
    have b_tk1 : (0 : Int) ≤ tk1 ∧ tk1 ≤ 5 := ex_tk1 ▸ hWx.1 11
    have b_fk1 : (0 : Int) ≤ fk1 ∧ fk1 ≤ 6 := ex_fk1 ▸ hWx.1 16
    have b_sy1 : (0 : Int) ≤ sy1 ∧ sy1 ≤ 202 := ex_sy1 ▸ hWx.1 19
    have b_na1 : (0 : Int) ≤ na1 ∧ na1 ≤ 200 := ex_na1 ▸ hWx.1 28
    refine jx_ld (pc' := 157) (l' := L) (st' := [.ref 66]) rfl (jl_aloadn gL_0) ?_
    refine jr_get (pc' := 160) (i := 54) (v := .ref 102) rfl rfl (by decide) rfl rfl ?_
    refine jx_ld (pc' := 161) (l' := L) (st' := [.ref 66, .ref 102]) rfl (jl_aloadn gL_0) ?_
    refine jr_get (pc' := 164) (i := 52) (v := .int (i32 (lk0))) rfl rfl (by decide) (rFv_eq (by decide) (show Gx 52 = lk0 from (fx_52))) rfl ?_
    refine jx_ld (pc' := 165) (l' := L) (st' := [.ref 66, .int (i32 (lk0)), .ref 102]) rfl (jl_aloadn gL_0) ?_
    refine jx_ar (pc' := 166) (st' := [.int (i32 (0)), .ref 66, .int (i32 (lk0)), .ref 102]) rfl rfl rfl rfl ?_
    refine jx_ar (pc' := 167) (st' := [.int (i32 (5)), .int (i32 (0)), .ref 66, .int (i32 (lk0)), .ref 102]) rfl rfl rfl rfl ?_
    refine jx_vr (pc' := 170) (as := [.int (i32 (0)), .int (i32 (5))]) (st := [.int (i32 (lk0)), .ref 102]) rfl rfl rfl rfl ⟨rfl, rfl, Nat.le_of_ble_eq_true rfl⟩ rfl rfl (c_needNumber (dd := d) (hd := by omega) (hW := hWx) (lo := 0) (hi := 5) (ln := ln) (e_ln := show Gx 9 = ln from (fx_9)) (le := le) (e_le := show Ax 4 (ln).toNat = le from (congrFun (hFx.2 4 rfl) _).trans (e_le)) (at0 := at1) (e_at0 := show Gx 10 = at1 from (ex_at1)) (fk := fk1) (e_fk := show Gx 16 = fk1 from (ex_fk1)) (tk0 := tk1) (e_tk0 := show Gx 11 = tk1 from (ex_tk1))  (h_lo := ⟨(by decide), (by decide)⟩) (h_hi := ⟨(by decide), (by decide)⟩)  (p_0 := by omega)) (fun o V' hq => ?_)
    obtain ⟨G1, A2, r3, at2_4, tk2_5, fk2_6, rfl, rfl, hW7, hF8, b9, e10, e11, e12, p13, p14, q15⟩ := hq
    have hF16 := Fr_tr hFx hF8 (Fr_sub (by decide)) (Fr_sub (by decide))
    have bat2_4 : (0 : Int) ≤ at2_4 ∧ at2_4 ≤ 3002 := e10 ▸ hW7.1 10
    have ztk2_5 := tz_b tk2_5
    have btk2_5 : (0 : Int) ≤ tk2_5 ∧ tk2_5 ≤ 5 := e11 ▸ hW7.1 11
    have bfk2_6 : (0 : Int) ≤ fk2_6 ∧ fk2_6 ≤ 6 := e12 ▸ hW7.1 16
    refine .inr ⟨_, rfl, ?_⟩
    rcases q15 with ⟨a17, a18, a19, a20⟩ | ⟨a21, a22, a23, a24, a25⟩
    · have _q : True := trivial
      refine jr_st (pc' := 171) (i := 35) (m := 13) (z := lk0) (y := r3) rfl (by decide) rfl (by decide) (by omega) (by omega) rfl ?_
      have hW27 : Wk G1 (uA A2 35 (lk0).toNat (r3)) := Wk_a hW7 (show (-2147483648 : Int) ≤ r3 by omega) (show r3 ≤ (2147483647 : Int) by omega)
      have hF28 := Fr_a (z := r3) (k := 35) (n := (lk0).toNat) hF16 (by decide)
      obtain ⟨A26, eA26⟩ : ∃ q, q = uA A2 35 (lk0).toNat (r3) := ⟨_, rfl⟩
      rw [← eA26]
      rw [← eA26] at hW27 hF28
      have q29 : A26 35 (lk0).toNat = r3 := by rw [eA26]; exact uA_eq
      refine jx_ld (pc' := 172) (l' := L) (st' := [.ref 66]) rfl (jl_aloadn gL_0) ?_
      refine jx_ld (pc' := 173) (l' := L) (st' := [.ref 66, .ref 66]) rfl (jl_aloadn gL_0) ?_
      refine jx_ar (pc' := 175) (st' := [.int (i32 (58)), .ref 66, .ref 66]) rfl rfl rfl rfl ?_
      have b30 : (-2147483648 : Int) ≤ G1 13 ∧ G1 13 ≤ 2147483647 := hW7.1 13
      refine jx_vr (pc' := 178) (as := [.int (i32 (58))]) (st := [.ref 66]) rfl rfl rfl rfl ⟨rfl, rfl, Nat.le_of_ble_eq_true rfl⟩ rfl rfl (c_is (dd := d) (hd := by omega) (hW := hW27) (k := 58) (tk := tk2_5) (e_tk := show G1 11 = tk2_5 from (e11)) (tn := G1 13) (e_tn := show G1 13 = G1 13 from rfl)  (h_k := ⟨(by decide), (by decide)⟩)  ) (fun o V' hq => ?_)
      obtain ⟨r31, rfl, rfl, b32, q33⟩ := hq
      refine .inr ⟨_, rfl, ?_⟩
      rcases q33 with ⟨rfl, a34, a35, a36⟩ | rfl
      · have _q : True := trivial
        refine jx_vr (pc' := 181) (as := [.int (i32 (1))]) (st := []) rfl rfl rfl rfl ⟨rfl, rfl, Nat.le_of_ble_eq_true rfl⟩ rfl rfl (c_need (dd := d) (hd := by omega) (hW := hW27) (g := 1) (ln := ln) (e_ln := show G1 9 = ln from ((hF8.1 9 rfl).trans (fx_9))) (le := le) (e_le := show A26 4 (ln).toNat = le from (congrFun (((congrFun eA26 4).trans (uA_ne (by decide))).trans ((hF8.2 4 rfl).trans (hFx.2 4 rfl))) _).trans (e_le)) (at0 := at2_4) (e_at0 := show G1 10 = at2_4 from (e10)) (fk := fk2_6) (e_fk := show G1 16 = fk2_6 from (e12)) (tk0 := tk2_5) (e_tk0 := show G1 11 = tk2_5 from (e11))  (h_g := ⟨(by decide), (by decide)⟩)  (p_0 := by omega)) (fun o V' hq => ?_)
        obtain ⟨G37, A38, at2_39, tk2_40, fk2_41, rfl, rfl, hW42, hF43, e44, e45, e46, p47, p48, q49⟩ := hq
        have hF50 := Fr_tr hF28 hF43 (Fr_sub (by decide)) (Fr_sub (by decide))
        have bat2_39 : (0 : Int) ≤ at2_39 ∧ at2_39 ≤ 3002 := e44 ▸ hW42.1 10
        have ztk2_40 := tz_b tk2_40
        have btk2_40 : (0 : Int) ≤ tk2_40 ∧ tk2_40 ≤ 5 := e45 ▸ hW42.1 11
        have bfk2_41 : (0 : Int) ≤ fk2_41 ∧ fk2_41 ≤ 6 := e46 ▸ hW42.1 16
        refine .inl ⟨rfl, ?_⟩
        rcases q49 with ⟨a51, a52, a53, a54⟩ | ⟨a55, a56, a57, a58⟩
        · have _q : True := trivial
          refine jx_ld (pc' := 182) (l' := L) (st' := [.ref 66]) rfl (jl_aloadn gL_0) ?_
          refine jx_vr (pc' := 185) (as := []) (st := []) rfl rfl rfl rfl ⟨rfl, rfl, Nat.le_of_ble_eq_true rfl⟩ rfl rfl (c_endLine (dd := d) (hd := by omega) (hW := hW42)  (ln := ln) (e_ln := show G37 9 = ln from ((hF43.1 9 rfl).trans ((hF8.1 9 rfl).trans (fx_9)))) (li := li) (e_li := show G37 3 = li from ((hF43.1 3 rfl).trans ((hF8.1 3 rfl).trans ((hFx.1 3 rfl).trans (e_li))))) (fk := fk2_41) (e_fk := show G37 16 = fk2_41 from (e46)) (tk0 := tk2_40) (e_tk0 := show G37 11 = tk2_40 from (e45))    (p_0 := by omega)) (fun o V' hq => ?_)
          obtain ⟨G59, A60, ln2_61, fk2_62, rfl, rfl, hW63, hF64, e65, e66, q67⟩ := hq
          have hF68 := Fr_tr hF50 hF64 (Fr_sub (by decide)) (Fr_sub (by decide))
          have bln2_61 : (0 : Int) ≤ ln2_61 ∧ ln2_61 ≤ 3000 := e65 ▸ hW63.1 9
          have bfk2_62 : (0 : Int) ≤ fk2_62 ∧ fk2_62 ≤ 6 := e66 ▸ hW63.1 16
          refine .inl ⟨rfl, ?_⟩
          rcases q67 with ⟨a69, a70, a71, a72, a73⟩ | ⟨a74, a75⟩
          · have _q : True := trivial
            exfalso
            omega
          · have _q : True := trivial
            refine jx_ld (pc' := 186) (l' := L) (st' := [.ref 66]) rfl (jl_aloadn gL_0) ?_
            refine jx_vr (pc' := 189) (as := []) (st := []) rfl rfl rfl rfl ⟨rfl, rfl, Nat.le_of_ble_eq_true rfl⟩ rfl rfl (c_bad (dd := d) (hd := by omega) (hW := hW63)  (fk := fk2_62) (e_fk := show G59 16 = fk2_62 from (e66))    ) (fun o V' hq => ?_)
            obtain ⟨r76, rfl, rfl, b77, q78⟩ := hq
            refine .inr ⟨_, rfl, ?_⟩
            rcases q78 with ⟨rfl, a79⟩ | ⟨rfl, a80⟩
            · have _q : True := trivial
              refine jx_if_ne (pc' := 192) (tg := 217) rfl rfl rfl (by decide) (by decide) (fun h81 => ?_) (fun h81 => ?_)
              · have _q := h81
                refine jx_rt (v := none) rfl rfl rfl rfl rfl rfl ?_
                exact ⟨_, _, ln2_61, at2_39, fk2_62, sy1, na1, vi, rfl, rfl, hW63, hF68, (e65), ((hF64.1 10 rfl).trans (e44)), (e66), ((hF64.1 19 rfl).trans ((hF43.1 19 rfl).trans ((hF8.1 19 rfl).trans (ex_sy1)))), ((hF64.1 28 rfl).trans ((hF43.1 28 rfl).trans ((hF8.1 28 rfl).trans (ex_na1)))), ((hF64.1 29 rfl).trans ((hF43.1 29 rfl).trans ((hF8.1 29 rfl).trans (fx_29)))), by omega, by omega, by omega, by omega, by omega, by omega, by omega, by first | exact Or.inl (by omega) | exact Or.inr ((⟨by omega, by omega⟩))⟩
              · have _q := h81
                exact absurd h81 (by omega)
            · have _q : True := trivial
              exfalso
              omega
        · have _q : True := trivial
          exfalso
          omega
      · have _q : True := trivial
        refine jx_vr (pc' := 181) (as := [.int (i32 (0))]) (st := []) rfl rfl rfl rfl ⟨rfl, rfl, Nat.le_of_ble_eq_true rfl⟩ rfl rfl (c_need (dd := d) (hd := by omega) (hW := hW27) (g := 0) (ln := ln) (e_ln := show G1 9 = ln from ((hF8.1 9 rfl).trans (fx_9))) (le := le) (e_le := show A26 4 (ln).toNat = le from (congrFun (((congrFun eA26 4).trans (uA_ne (by decide))).trans ((hF8.2 4 rfl).trans (hFx.2 4 rfl))) _).trans (e_le)) (at0 := at2_4) (e_at0 := show G1 10 = at2_4 from (e10)) (fk := fk2_6) (e_fk := show G1 16 = fk2_6 from (e12)) (tk0 := tk2_5) (e_tk0 := show G1 11 = tk2_5 from (e11))  (h_g := ⟨(by decide), (by decide)⟩)  (p_0 := by omega)) (fun o V' hq => ?_)
        obtain ⟨G82, A83, at2_84, tk2_85, fk2_86, rfl, rfl, hW87, hF88, e89, e90, e91, p92, p93, q94⟩ := hq
        have hF95 := Fr_tr hF28 hF88 (Fr_sub (by decide)) (Fr_sub (by decide))
        have bat2_84 : (0 : Int) ≤ at2_84 ∧ at2_84 ≤ 3002 := e89 ▸ hW87.1 10
        have ztk2_85 := tz_b tk2_85
        have btk2_85 : (0 : Int) ≤ tk2_85 ∧ tk2_85 ≤ 5 := e90 ▸ hW87.1 11
        have bfk2_86 : (0 : Int) ≤ fk2_86 ∧ fk2_86 ≤ 6 := e91 ▸ hW87.1 16
        refine .inl ⟨rfl, ?_⟩
        rcases q94 with ⟨a96, a97, a98, a99⟩ | ⟨a100, a101, a102, a103⟩
        · have _q : True := trivial
          refine jx_ld (pc' := 182) (l' := L) (st' := [.ref 66]) rfl (jl_aloadn gL_0) ?_
          refine jx_vr (pc' := 185) (as := []) (st := []) rfl rfl rfl rfl ⟨rfl, rfl, Nat.le_of_ble_eq_true rfl⟩ rfl rfl (c_endLine (dd := d) (hd := by omega) (hW := hW87)  (ln := ln) (e_ln := show G82 9 = ln from ((hF88.1 9 rfl).trans ((hF8.1 9 rfl).trans (fx_9)))) (li := li) (e_li := show G82 3 = li from ((hF88.1 3 rfl).trans ((hF8.1 3 rfl).trans ((hFx.1 3 rfl).trans (e_li))))) (fk := fk2_86) (e_fk := show G82 16 = fk2_86 from (e91)) (tk0 := tk2_85) (e_tk0 := show G82 11 = tk2_85 from (e90))    (p_0 := by omega)) (fun o V' hq => ?_)
          obtain ⟨G104, A105, ln2_106, fk2_107, rfl, rfl, hW108, hF109, e110, e111, q112⟩ := hq
          have hF113 := Fr_tr hF95 hF109 (Fr_sub (by decide)) (Fr_sub (by decide))
          have bln2_106 : (0 : Int) ≤ ln2_106 ∧ ln2_106 ≤ 3000 := e110 ▸ hW108.1 9
          have bfk2_107 : (0 : Int) ≤ fk2_107 ∧ fk2_107 ≤ 6 := e111 ▸ hW108.1 16
          refine .inl ⟨rfl, ?_⟩
          rcases q112 with ⟨a114, a115, a116, a117, a118⟩ | ⟨a119, a120⟩
          · have _q : True := trivial
            exfalso
            omega
          · have _q : True := trivial
            refine jx_ld (pc' := 186) (l' := L) (st' := [.ref 66]) rfl (jl_aloadn gL_0) ?_
            refine jx_vr (pc' := 189) (as := []) (st := []) rfl rfl rfl rfl ⟨rfl, rfl, Nat.le_of_ble_eq_true rfl⟩ rfl rfl (c_bad (dd := d) (hd := by omega) (hW := hW108)  (fk := fk2_107) (e_fk := show G104 16 = fk2_107 from (e111))    ) (fun o V' hq => ?_)
            obtain ⟨r121, rfl, rfl, b122, q123⟩ := hq
            refine .inr ⟨_, rfl, ?_⟩
            rcases q123 with ⟨rfl, a124⟩ | ⟨rfl, a125⟩
            · have _q : True := trivial
              refine jx_if_ne (pc' := 192) (tg := 217) rfl rfl rfl (by decide) (by decide) (fun h126 => ?_) (fun h126 => ?_)
              · have _q := h126
                refine jx_rt (v := none) rfl rfl rfl rfl rfl rfl ?_
                exact ⟨_, _, ln2_106, at2_84, fk2_107, sy1, na1, vi, rfl, rfl, hW108, hF113, (e110), ((hF109.1 10 rfl).trans (e89)), (e111), ((hF109.1 19 rfl).trans ((hF88.1 19 rfl).trans ((hF8.1 19 rfl).trans (ex_sy1)))), ((hF109.1 28 rfl).trans ((hF88.1 28 rfl).trans ((hF8.1 28 rfl).trans (ex_na1)))), ((hF109.1 29 rfl).trans ((hF88.1 29 rfl).trans ((hF8.1 29 rfl).trans (fx_29)))), by omega, by omega, by omega, by omega, by omega, by omega, by omega, by first | exact Or.inl (by omega) | exact Or.inr ((⟨by omega, by omega⟩))⟩
              · have _q := h126
                exact absurd h126 (by omega)
            · have _q : True := trivial
              exfalso
              omega
        · have _q : True := trivial
          exfalso
          omega
    · have _q : True := trivial
      refine jr_st (pc' := 171) (i := 35) (m := 13) (z := lk0) (y := r3) rfl (by decide) rfl (by decide) (by omega) (by omega) rfl ?_
      have hW128 : Wk G1 (uA A2 35 (lk0).toNat (r3)) := Wk_a hW7 (show (-2147483648 : Int) ≤ r3 by omega) (show r3 ≤ (2147483647 : Int) by omega)
      have hF129 := Fr_a (z := r3) (k := 35) (n := (lk0).toNat) hF16 (by decide)
      obtain ⟨A127, eA127⟩ : ∃ q, q = uA A2 35 (lk0).toNat (r3) := ⟨_, rfl⟩
      rw [← eA127]
      rw [← eA127] at hW128 hF129
      have q130 : A127 35 (lk0).toNat = r3 := by rw [eA127]; exact uA_eq
      refine jx_ld (pc' := 172) (l' := L) (st' := [.ref 66]) rfl (jl_aloadn gL_0) ?_
      refine jx_ld (pc' := 173) (l' := L) (st' := [.ref 66, .ref 66]) rfl (jl_aloadn gL_0) ?_
      refine jx_ar (pc' := 175) (st' := [.int (i32 (58)), .ref 66, .ref 66]) rfl rfl rfl rfl ?_
      have b131 : (-2147483648 : Int) ≤ G1 13 ∧ G1 13 ≤ 2147483647 := hW7.1 13
      refine jx_vr (pc' := 178) (as := [.int (i32 (58))]) (st := [.ref 66]) rfl rfl rfl rfl ⟨rfl, rfl, Nat.le_of_ble_eq_true rfl⟩ rfl rfl (c_is (dd := d) (hd := by omega) (hW := hW128) (k := 58) (tk := tk2_5) (e_tk := show G1 11 = tk2_5 from (e11)) (tn := G1 13) (e_tn := show G1 13 = G1 13 from rfl)  (h_k := ⟨(by decide), (by decide)⟩)  ) (fun o V' hq => ?_)
      obtain ⟨r132, rfl, rfl, b133, q134⟩ := hq
      refine .inr ⟨_, rfl, ?_⟩
      rcases q134 with ⟨rfl, a135, a136, a137⟩ | rfl
      · have _q : True := trivial
        refine jx_vr (pc' := 181) (as := [.int (i32 (1))]) (st := []) rfl rfl rfl rfl ⟨rfl, rfl, Nat.le_of_ble_eq_true rfl⟩ rfl rfl (c_need (dd := d) (hd := by omega) (hW := hW128) (g := 1) (ln := ln) (e_ln := show G1 9 = ln from ((hF8.1 9 rfl).trans (fx_9))) (le := le) (e_le := show A127 4 (ln).toNat = le from (congrFun (((congrFun eA127 4).trans (uA_ne (by decide))).trans ((hF8.2 4 rfl).trans (hFx.2 4 rfl))) _).trans (e_le)) (at0 := at2_4) (e_at0 := show G1 10 = at2_4 from (e10)) (fk := fk2_6) (e_fk := show G1 16 = fk2_6 from (e12)) (tk0 := tk2_5) (e_tk0 := show G1 11 = tk2_5 from (e11))  (h_g := ⟨(by decide), (by decide)⟩)  (p_0 := by omega)) (fun o V' hq => ?_)
        obtain ⟨G138, A139, at2_140, tk2_141, fk2_142, rfl, rfl, hW143, hF144, e145, e146, e147, p148, p149, q150⟩ := hq
        have hF151 := Fr_tr hF129 hF144 (Fr_sub (by decide)) (Fr_sub (by decide))
        have bat2_140 : (0 : Int) ≤ at2_140 ∧ at2_140 ≤ 3002 := e145 ▸ hW143.1 10
        have ztk2_141 := tz_b tk2_141
        have btk2_141 : (0 : Int) ≤ tk2_141 ∧ tk2_141 ≤ 5 := e146 ▸ hW143.1 11
        have bfk2_142 : (0 : Int) ≤ fk2_142 ∧ fk2_142 ≤ 6 := e147 ▸ hW143.1 16
        refine .inl ⟨rfl, ?_⟩
        rcases q150 with ⟨a152, a153, a154, a155⟩ | ⟨a156, a157, a158, a159⟩
        · have _q : True := trivial
          refine jx_ld (pc' := 182) (l' := L) (st' := [.ref 66]) rfl (jl_aloadn gL_0) ?_
          refine jx_vr (pc' := 185) (as := []) (st := []) rfl rfl rfl rfl ⟨rfl, rfl, Nat.le_of_ble_eq_true rfl⟩ rfl rfl (c_endLine (dd := d) (hd := by omega) (hW := hW143)  (ln := ln) (e_ln := show G138 9 = ln from ((hF144.1 9 rfl).trans ((hF8.1 9 rfl).trans (fx_9)))) (li := li) (e_li := show G138 3 = li from ((hF144.1 3 rfl).trans ((hF8.1 3 rfl).trans ((hFx.1 3 rfl).trans (e_li))))) (fk := fk2_142) (e_fk := show G138 16 = fk2_142 from (e147)) (tk0 := tk2_141) (e_tk0 := show G138 11 = tk2_141 from (e146))    (p_0 := by omega)) (fun o V' hq => ?_)
          obtain ⟨G160, A161, ln2_162, fk2_163, rfl, rfl, hW164, hF165, e166, e167, q168⟩ := hq
          have hF169 := Fr_tr hF151 hF165 (Fr_sub (by decide)) (Fr_sub (by decide))
          have bln2_162 : (0 : Int) ≤ ln2_162 ∧ ln2_162 ≤ 3000 := e166 ▸ hW164.1 9
          have bfk2_163 : (0 : Int) ≤ fk2_163 ∧ fk2_163 ≤ 6 := e167 ▸ hW164.1 16
          refine .inl ⟨rfl, ?_⟩
          rcases q168 with ⟨a170, a171, a172, a173, a174⟩ | ⟨a175, a176⟩
          · have _q : True := trivial
            exfalso
            omega
          · have _q : True := trivial
            refine jx_ld (pc' := 186) (l' := L) (st' := [.ref 66]) rfl (jl_aloadn gL_0) ?_
            refine jx_vr (pc' := 189) (as := []) (st := []) rfl rfl rfl rfl ⟨rfl, rfl, Nat.le_of_ble_eq_true rfl⟩ rfl rfl (c_bad (dd := d) (hd := by omega) (hW := hW164)  (fk := fk2_163) (e_fk := show G160 16 = fk2_163 from (e167))    ) (fun o V' hq => ?_)
            obtain ⟨r177, rfl, rfl, b178, q179⟩ := hq
            refine .inr ⟨_, rfl, ?_⟩
            rcases q179 with ⟨rfl, a180⟩ | ⟨rfl, a181⟩
            · have _q : True := trivial
              refine jx_if_ne (pc' := 192) (tg := 217) rfl rfl rfl (by decide) (by decide) (fun h182 => ?_) (fun h182 => ?_)
              · have _q := h182
                refine jx_rt (v := none) rfl rfl rfl rfl rfl rfl ?_
                exact ⟨_, _, ln2_162, at2_140, fk2_163, sy1, na1, vi, rfl, rfl, hW164, hF169, (e166), ((hF165.1 10 rfl).trans (e145)), (e167), ((hF165.1 19 rfl).trans ((hF144.1 19 rfl).trans ((hF8.1 19 rfl).trans (ex_sy1)))), ((hF165.1 28 rfl).trans ((hF144.1 28 rfl).trans ((hF8.1 28 rfl).trans (ex_na1)))), ((hF165.1 29 rfl).trans ((hF144.1 29 rfl).trans ((hF8.1 29 rfl).trans (fx_29)))), by omega, by omega, by omega, by omega, by omega, by omega, by omega, by first | exact Or.inl (by omega) | exact Or.inr ((⟨by omega, by omega⟩))⟩
              · have _q := h182
                exact absurd h182 (by omega)
            · have _q : True := trivial
              exfalso
              omega
        · have _q : True := trivial
          refine jx_ld (pc' := 182) (l' := L) (st' := [.ref 66]) rfl (jl_aloadn gL_0) ?_
          refine jx_vr (pc' := 185) (as := []) (st := []) rfl rfl rfl rfl ⟨rfl, rfl, Nat.le_of_ble_eq_true rfl⟩ rfl rfl (c_endLine (dd := d) (hd := by omega) (hW := hW143)  (ln := ln) (e_ln := show G138 9 = ln from ((hF144.1 9 rfl).trans ((hF8.1 9 rfl).trans (fx_9)))) (li := li) (e_li := show G138 3 = li from ((hF144.1 3 rfl).trans ((hF8.1 3 rfl).trans ((hFx.1 3 rfl).trans (e_li))))) (fk := fk2_142) (e_fk := show G138 16 = fk2_142 from (e147)) (tk0 := tk2_141) (e_tk0 := show G138 11 = tk2_141 from (e146))    (p_0 := by omega)) (fun o V' hq => ?_)
          obtain ⟨G183, A184, ln2_185, fk2_186, rfl, rfl, hW187, hF188, e189, e190, q191⟩ := hq
          have hF192 := Fr_tr hF151 hF188 (Fr_sub (by decide)) (Fr_sub (by decide))
          have bln2_185 : (0 : Int) ≤ ln2_185 ∧ ln2_185 ≤ 3000 := e189 ▸ hW187.1 9
          have bfk2_186 : (0 : Int) ≤ fk2_186 ∧ fk2_186 ≤ 6 := e190 ▸ hW187.1 16
          refine .inl ⟨rfl, ?_⟩
          rcases q191 with ⟨a193, a194, a195, a196, a197⟩ | ⟨a198, a199⟩
          · have _q : True := trivial
            refine jx_ld (pc' := 186) (l' := L) (st' := [.ref 66]) rfl (jl_aloadn gL_0) ?_
            refine jx_vr (pc' := 189) (as := []) (st := []) rfl rfl rfl rfl ⟨rfl, rfl, Nat.le_of_ble_eq_true rfl⟩ rfl rfl (c_bad (dd := d) (hd := by omega) (hW := hW187)  (fk := fk2_186) (e_fk := show G183 16 = fk2_186 from (e190))    ) (fun o V' hq => ?_)
            obtain ⟨r200, rfl, rfl, b201, q202⟩ := hq
            refine .inr ⟨_, rfl, ?_⟩
            rcases q202 with ⟨rfl, a203⟩ | ⟨rfl, a204⟩
            · have _q : True := trivial
              exfalso
              omega
            · have _q : True := trivial
              refine jx_if_ne (pc' := 192) (tg := 217) rfl rfl rfl (by decide) (by decide) (fun h205 => ?_) (fun h205 => ?_)
              · have _q := h205
                exact absurd h205 (by omega)
              · have _q := h205
                refine jx_ld (pc' := 193) (l' := L) (st' := [.ref 66]) rfl (jl_aloadn gL_0) ?_
                refine jr_get (pc' := 196) (i := 26) (v := .ref 79) rfl rfl (by decide) rfl rfl ?_
                refine jx_ld (pc' := 197) (l' := L) (st' := [.int (i32 (s)), .ref 79]) rfl (jl_iloadn gL_1) ?_
                refine jx_ld (pc' := 198) (l' := L) (st' := [.ref 66, .int (i32 (s)), .ref 79]) rfl (jl_aloadn gL_0) ?_
                refine jr_get (pc' := 201) (i := 52) (v := .int (i32 (lk0))) rfl rfl (by decide) (rFv_eq (by decide) (show G183 52 = lk0 from ((hF188.1 52 rfl).trans ((hF144.1 52 rfl).trans ((hF8.1 52 rfl).trans (fx_52)))))) rfl ?_
                refine jr_st (pc' := 202) (i := 12) (m := 260) (z := s) (y := lk0) rfl (by decide) rfl (by decide) (by omega) (by omega) rfl ?_
                have hW207 : Wk G183 (uA A184 12 (s).toNat (lk0)) := Wk_a hW187 (show (0 : Int) ≤ lk0 by omega) (show lk0 ≤ (24 : Int) by omega)
                have hF208 := Fr_a (z := lk0) (k := 12) (n := (s).toNat) hF192 (by decide)
                obtain ⟨A206, eA206⟩ : ∃ q, q = uA A184 12 (s).toNat (lk0) := ⟨_, rfl⟩
                rw [← eA206]
                rw [← eA206] at hW207 hF208
                have q209 : A206 12 (s).toNat = lk0 := by rw [eA206]; exact uA_eq
                refine jx_ld (pc' := 203) (l' := L) (st' := [.ref 66]) rfl (jl_aloadn gL_0) ?_
                refine jx_ld (pc' := 204) (l' := L) (st' := [.int (i32 (s)), .ref 66]) rfl (jl_iloadn gL_1) ?_
                refine jx_vr (pc' := 207) (as := [.int (i32 (s))]) (st := []) rfl rfl rfl rfl ⟨rfl, rfl, Nat.le_of_ble_eq_true rfl⟩ rfl rfl (c_show (dd := d) (hd := by omega) (hW := hW207) (s := s) (vi := vi) (e_vi := show G183 29 = vi from ((hF188.1 29 rfl).trans ((hF144.1 29 rfl).trans ((hF8.1 29 rfl).trans (fx_29)))))  (h_s := ⟨(Int.le_trans (by decide : (-2147483648 : Int) ≤ -2147483648) rx_s.1), (Int.le_trans rx_s.2 (by decide : (2147483647 : Int) ≤ 2147483647))⟩)  (p_0 := by omega) (p_1 := by omega)) (fun o V' hq => ?_)
                obtain ⟨G210, A211, vi2_212, rfl, rfl, hW213, hF214, e215, p216, -⟩ := hq
                have hF218 := Fr_tr hF208 hF214 (Fr_sub (by decide)) (Fr_sub (by decide))
                have bvi2_212 : (0 : Int) ≤ vi2_212 ∧ vi2_212 ≤ 202 := e215 ▸ hW213.1 29
                refine .inl ⟨rfl, ?_⟩
                refine jx_ld (pc' := 208) (l' := L) (st' := [.ref 66]) rfl (jl_aloadn gL_0) ?_
                refine jx_ar (pc' := 209) (st' := [.ref 66, .ref 66]) rfl rfl rfl rfl ?_
                refine jr_get (pc' := 212) (i := 52) (v := .int (i32 (lk0))) rfl rfl (by decide) (rFv_eq (by decide) (show G210 52 = lk0 from ((hF214.1 52 rfl).trans ((hF188.1 52 rfl).trans ((hF144.1 52 rfl).trans ((hF8.1 52 rfl).trans (fx_52))))))) rfl ?_
                refine jx_ar (pc' := 213) (st' := [.int (i32 (1)), .int (i32 (lk0)), .ref 66]) rfl rfl rfl rfl ?_
                refine jx_add (pc' := 214) rfl rfl ?_
                refine jr_put (pc' := 217) (i := 52) (z := (lk0 + 1)) rfl rfl (by decide) rfl rfl rfl rfl rfl rfl ?_
                have hW219 : Wk (uG G210 52 ((lk0 + 1))) A211 := Wk_g hW213 (show (0 : Int) ≤ (lk0 + 1) by omega) (show (lk0 + 1) ≤ (12 : Int) by omega)
                have hF220 := Fr_g (z := (lk0 + 1)) (i := 52) hF218 (by decide)
                refine jx_rt (v := none) rfl rfl rfl rfl rfl rfl ?_
                exact ⟨_, _, ln2_185, at2_140, fk2_186, sy1, na1, vi2_212, rfl, rfl, hW219, hF220, ((hF214.1 9 rfl).trans (e189)), ((hF214.1 10 rfl).trans ((hF188.1 10 rfl).trans (e145))), ((hF214.1 16 rfl).trans (e190)), ((hF214.1 19 rfl).trans ((hF188.1 19 rfl).trans ((hF144.1 19 rfl).trans ((hF8.1 19 rfl).trans (ex_sy1))))), ((hF214.1 28 rfl).trans ((hF188.1 28 rfl).trans ((hF144.1 28 rfl).trans ((hF8.1 28 rfl).trans (ex_na1))))), (e215), by omega, by omega, by omega, by omega, by omega, by omega, by omega, by first | exact Or.inl (by omega) | exact Or.inr ((⟨by omega, by omega⟩))⟩
          · have _q : True := trivial
            refine jx_ld (pc' := 186) (l' := L) (st' := [.ref 66]) rfl (jl_aloadn gL_0) ?_
            refine jx_vr (pc' := 189) (as := []) (st := []) rfl rfl rfl rfl ⟨rfl, rfl, Nat.le_of_ble_eq_true rfl⟩ rfl rfl (c_bad (dd := d) (hd := by omega) (hW := hW187)  (fk := fk2_186) (e_fk := show G183 16 = fk2_186 from (e190))    ) (fun o V' hq => ?_)
            obtain ⟨r221, rfl, rfl, b222, q223⟩ := hq
            refine .inr ⟨_, rfl, ?_⟩
            rcases q223 with ⟨rfl, a224⟩ | ⟨rfl, a225⟩
            · have _q : True := trivial
              refine jx_if_ne (pc' := 192) (tg := 217) rfl rfl rfl (by decide) (by decide) (fun h226 => ?_) (fun h226 => ?_)
              · have _q := h226
                refine jx_rt (v := none) rfl rfl rfl rfl rfl rfl ?_
                exact ⟨_, _, ln2_185, at2_140, fk2_186, sy1, na1, vi, rfl, rfl, hW187, hF192, (e189), ((hF188.1 10 rfl).trans (e145)), (e190), ((hF188.1 19 rfl).trans ((hF144.1 19 rfl).trans ((hF8.1 19 rfl).trans (ex_sy1)))), ((hF188.1 28 rfl).trans ((hF144.1 28 rfl).trans ((hF8.1 28 rfl).trans (ex_na1)))), ((hF188.1 29 rfl).trans ((hF144.1 29 rfl).trans ((hF8.1 29 rfl).trans (fx_29)))), by omega, by omega, by omega, by omega, by omega, by omega, by omega, by first | exact Or.inl (by omega) | exact Or.inr ((⟨by omega, by omega⟩))⟩
              · have _q := h226
                exact absurd h226 (by omega)
            · have _q : True := trivial
              exfalso
              omega
      · have _q : True := trivial
        refine jx_vr (pc' := 181) (as := [.int (i32 (0))]) (st := []) rfl rfl rfl rfl ⟨rfl, rfl, Nat.le_of_ble_eq_true rfl⟩ rfl rfl (c_need (dd := d) (hd := by omega) (hW := hW128) (g := 0) (ln := ln) (e_ln := show G1 9 = ln from ((hF8.1 9 rfl).trans (fx_9))) (le := le) (e_le := show A127 4 (ln).toNat = le from (congrFun (((congrFun eA127 4).trans (uA_ne (by decide))).trans ((hF8.2 4 rfl).trans (hFx.2 4 rfl))) _).trans (e_le)) (at0 := at2_4) (e_at0 := show G1 10 = at2_4 from (e10)) (fk := fk2_6) (e_fk := show G1 16 = fk2_6 from (e12)) (tk0 := tk2_5) (e_tk0 := show G1 11 = tk2_5 from (e11))  (h_g := ⟨(by decide), (by decide)⟩)  (p_0 := by omega)) (fun o V' hq => ?_)
        obtain ⟨G227, A228, at2_229, tk2_230, fk2_231, rfl, rfl, hW232, hF233, e234, e235, e236, p237, p238, q239⟩ := hq
        have hF240 := Fr_tr hF129 hF233 (Fr_sub (by decide)) (Fr_sub (by decide))
        have bat2_229 : (0 : Int) ≤ at2_229 ∧ at2_229 ≤ 3002 := e234 ▸ hW232.1 10
        have ztk2_230 := tz_b tk2_230
        have btk2_230 : (0 : Int) ≤ tk2_230 ∧ tk2_230 ≤ 5 := e235 ▸ hW232.1 11
        have bfk2_231 : (0 : Int) ≤ fk2_231 ∧ fk2_231 ≤ 6 := e236 ▸ hW232.1 16
        refine .inl ⟨rfl, ?_⟩
        rcases q239 with ⟨a241, a242, a243, a244⟩ | ⟨a245, a246, a247, a248⟩
        · have _q : True := trivial
          refine jx_ld (pc' := 182) (l' := L) (st' := [.ref 66]) rfl (jl_aloadn gL_0) ?_
          refine jx_vr (pc' := 185) (as := []) (st := []) rfl rfl rfl rfl ⟨rfl, rfl, Nat.le_of_ble_eq_true rfl⟩ rfl rfl (c_endLine (dd := d) (hd := by omega) (hW := hW232)  (ln := ln) (e_ln := show G227 9 = ln from ((hF233.1 9 rfl).trans ((hF8.1 9 rfl).trans (fx_9)))) (li := li) (e_li := show G227 3 = li from ((hF233.1 3 rfl).trans ((hF8.1 3 rfl).trans ((hFx.1 3 rfl).trans (e_li))))) (fk := fk2_231) (e_fk := show G227 16 = fk2_231 from (e236)) (tk0 := tk2_230) (e_tk0 := show G227 11 = tk2_230 from (e235))    (p_0 := by omega)) (fun o V' hq => ?_)
          obtain ⟨G249, A250, ln2_251, fk2_252, rfl, rfl, hW253, hF254, e255, e256, q257⟩ := hq
          have hF258 := Fr_tr hF240 hF254 (Fr_sub (by decide)) (Fr_sub (by decide))
          have bln2_251 : (0 : Int) ≤ ln2_251 ∧ ln2_251 ≤ 3000 := e255 ▸ hW253.1 9
          have bfk2_252 : (0 : Int) ≤ fk2_252 ∧ fk2_252 ≤ 6 := e256 ▸ hW253.1 16
          refine .inl ⟨rfl, ?_⟩
          rcases q257 with ⟨a259, a260, a261, a262, a263⟩ | ⟨a264, a265⟩
          · have _q : True := trivial
            exfalso
            omega
          · have _q : True := trivial
            refine jx_ld (pc' := 186) (l' := L) (st' := [.ref 66]) rfl (jl_aloadn gL_0) ?_
            refine jx_vr (pc' := 189) (as := []) (st := []) rfl rfl rfl rfl ⟨rfl, rfl, Nat.le_of_ble_eq_true rfl⟩ rfl rfl (c_bad (dd := d) (hd := by omega) (hW := hW253)  (fk := fk2_252) (e_fk := show G249 16 = fk2_252 from (e256))    ) (fun o V' hq => ?_)
            obtain ⟨r266, rfl, rfl, b267, q268⟩ := hq
            refine .inr ⟨_, rfl, ?_⟩
            rcases q268 with ⟨rfl, a269⟩ | ⟨rfl, a270⟩
            · have _q : True := trivial
              refine jx_if_ne (pc' := 192) (tg := 217) rfl rfl rfl (by decide) (by decide) (fun h271 => ?_) (fun h271 => ?_)
              · have _q := h271
                refine jx_rt (v := none) rfl rfl rfl rfl rfl rfl ?_
                exact ⟨_, _, ln2_251, at2_229, fk2_252, sy1, na1, vi, rfl, rfl, hW253, hF258, (e255), ((hF254.1 10 rfl).trans (e234)), (e256), ((hF254.1 19 rfl).trans ((hF233.1 19 rfl).trans ((hF8.1 19 rfl).trans (ex_sy1)))), ((hF254.1 28 rfl).trans ((hF233.1 28 rfl).trans ((hF8.1 28 rfl).trans (ex_na1)))), ((hF254.1 29 rfl).trans ((hF233.1 29 rfl).trans ((hF8.1 29 rfl).trans (fx_29)))), by omega, by omega, by omega, by omega, by omega, by omega, by omega, by first | exact Or.inl (by omega) | exact Or.inr ((⟨by omega, by omega⟩))⟩
              · have _q := h271
                exact absurd h271 (by omega)
            · have _q : True := trivial
              exfalso
              omega
        · have _q : True := trivial
          exfalso
          omega
  have at_156p : ∀ (L : jL) (Gx : Nat → Int) (Ax : Nat → Nat → Int) (s at1 tk1 fk1 sy1 na1 : Int), jGet L 0 = some (.ref 66) → jGet L 1 = some (.int (i32 s)) → Wk Gx Ax → Fr [9, 10, 11, 12, 13, 14, 16, 17, 18, 19, 28, 29, 52] [6, 7, 8, 9, 10, 11, 12, 14, 34, 35] G A Gx Ax → Gx 10 = at1 → Gx 11 = tk1 → Gx 16 = fk1 → Gx 19 = sy1 → Gx 28 = na1 → Gx 9 = ln → Gx 29 = vi → Gx 52 = lk0 → ((-2147483648 : Int) ≤ s ∧ s ≤ 2147483647) → (1 ≤ fk1) → (at0 ≤ at1) → (at1 ≤ le) → (sy ≤ sy1) → (sy1 ≤ na1 + 2) → wj X d jm310 (156, L, [], rV c0 c1 Gx Ax T) (fun o V' => ∃ (G' : Nat → Int) (A' : Nat → Nat → Int) (ln2 : Int) (at2 : Int) (fk2 : Int) (sy2 : Int) (na2 : Int) (vi2 : Int), V' = rV c0 c1 G' A' T ∧ o = .inl none ∧ Wk G' A' ∧ Fr [9, 10, 11, 12, 13, 14, 16, 17, 18, 19, 28, 29, 52] [6, 7, 8, 9, 10, 11, 12, 14, 34, 35] G A G' A' ∧ G' 9 = ln2 ∧ G' 10 = at2 ∧ G' 16 = fk2 ∧ G' 19 = sy2 ∧ G' 28 = na2 ∧ G' 29 = vi2 ∧ (at0 ≤ at2) ∧ (at2 ≤ le) ∧ (sy ≤ sy2) ∧ (sy2 ≤ na2 + 2) ∧ (vi2 ≤ sy2) ∧ (ln ≤ ln2) ∧ (ln2 ≤ li) ∧ (((1 ≤ fk2)) ∨ ((fk2 = 0) ∧ (ln2 = ln + 1)))) := by
    intro L Gx Ax s at1 tk1 fk1 sy1 na1 gL_0 gL_1 hWx hFx ex_at1 ex_tk1 ex_fk1 ex_sy1 ex_na1 fx_9 fx_29 fx_52 rx_s iv_0 iv_1 iv_2 iv_3 iv_4
    have b_at1 : (0 : Int) ≤ at1 ∧ at1 ≤ 3002 := ex_at1 ▸ hWx.1 10
    have b_tk1 : (0 : Int) ≤ tk1 ∧ tk1 ≤ 5 := ex_tk1 ▸ hWx.1 11
    have b_fk1 : (0 : Int) ≤ fk1 ∧ fk1 ≤ 6 := ex_fk1 ▸ hWx.1 16
    have b_sy1 : (0 : Int) ≤ sy1 ∧ sy1 ≤ 202 := ex_sy1 ▸ hWx.1 19
    have b_na1 : (0 : Int) ≤ na1 ∧ na1 ≤ 200 := ex_na1 ▸ hWx.1 28
    refine jx_ld (pc' := 157) (l' := L) (st' := [.ref 66]) rfl (jl_aloadn gL_0) ?_
    refine jr_get (pc' := 160) (i := 54) (v := .ref 102) rfl rfl (by decide) rfl rfl ?_
    refine jx_ld (pc' := 161) (l' := L) (st' := [.ref 66, .ref 102]) rfl (jl_aloadn gL_0) ?_
    refine jr_get (pc' := 164) (i := 52) (v := .int (i32 (lk0))) rfl rfl (by decide) (rFv_eq (by decide) (show Gx 52 = lk0 from (fx_52))) rfl ?_
    refine jx_ld (pc' := 165) (l' := L) (st' := [.ref 66, .int (i32 (lk0)), .ref 102]) rfl (jl_aloadn gL_0) ?_
    refine jx_ar (pc' := 166) (st' := [.int (i32 (0)), .ref 66, .int (i32 (lk0)), .ref 102]) rfl rfl rfl rfl ?_
    refine jx_ar (pc' := 167) (st' := [.int (i32 (5)), .int (i32 (0)), .ref 66, .int (i32 (lk0)), .ref 102]) rfl rfl rfl rfl ?_
    refine jx_vr (pc' := 170) (as := [.int (i32 (0)), .int (i32 (5))]) (st := [.int (i32 (lk0)), .ref 102]) rfl rfl rfl rfl ⟨rfl, rfl, Nat.le_of_ble_eq_true rfl⟩ rfl rfl (c_needNumber (dd := d) (hd := by omega) (hW := hWx) (lo := 0) (hi := 5) (ln := ln) (e_ln := show Gx 9 = ln from (fx_9)) (le := le) (e_le := show Ax 4 (ln).toNat = le from (congrFun (hFx.2 4 rfl) _).trans (e_le)) (at0 := at1) (e_at0 := show Gx 10 = at1 from (ex_at1)) (fk := fk1) (e_fk := show Gx 16 = fk1 from (ex_fk1)) (tk0 := tk1) (e_tk0 := show Gx 11 = tk1 from (ex_tk1))  (h_lo := ⟨(by decide), (by decide)⟩) (h_hi := ⟨(by decide), (by decide)⟩)  (p_0 := by omega)) (fun o V' hq => ?_)
    obtain ⟨G272, A273, r274, at2_275, tk2_276, fk2_277, rfl, rfl, hW278, hF279, b280, e281, e282, e283, p284, p285, q286⟩ := hq
    have hF287 := Fr_tr hFx hF279 (Fr_sub (by decide)) (Fr_sub (by decide))
    have bat2_275 : (0 : Int) ≤ at2_275 ∧ at2_275 ≤ 3002 := e281 ▸ hW278.1 10
    have ztk2_276 := tz_b tk2_276
    have btk2_276 : (0 : Int) ≤ tk2_276 ∧ tk2_276 ≤ 5 := e282 ▸ hW278.1 11
    have bfk2_277 : (0 : Int) ≤ fk2_277 ∧ fk2_277 ≤ 6 := e283 ▸ hW278.1 16
    refine .inr ⟨_, rfl, ?_⟩
    rcases q286 with ⟨a288, a289, a290, a291⟩ | ⟨a292, a293, a294, a295, a296⟩
    · have _q : True := trivial
      refine jr_st (pc' := 171) (i := 35) (m := 13) (z := lk0) (y := r274) rfl (by decide) rfl (by decide) (by omega) (by omega) rfl ?_
      have hW298 : Wk G272 (uA A273 35 (lk0).toNat (r274)) := Wk_a hW278 (show (-2147483648 : Int) ≤ r274 by omega) (show r274 ≤ (2147483647 : Int) by omega)
      have hF299 := Fr_a (z := r274) (k := 35) (n := (lk0).toNat) hF287 (by decide)
      obtain ⟨A297, eA297⟩ : ∃ q, q = uA A273 35 (lk0).toNat (r274) := ⟨_, rfl⟩
      rw [← eA297]
      rw [← eA297] at hW298 hF299
      have q300 : A297 35 (lk0).toNat = r274 := by rw [eA297]; exact uA_eq
      refine jx_ld (pc' := 172) (l' := L) (st' := [.ref 66]) rfl (jl_aloadn gL_0) ?_
      refine jx_ld (pc' := 173) (l' := L) (st' := [.ref 66, .ref 66]) rfl (jl_aloadn gL_0) ?_
      refine jx_ar (pc' := 175) (st' := [.int (i32 (58)), .ref 66, .ref 66]) rfl rfl rfl rfl ?_
      have b301 : (-2147483648 : Int) ≤ G272 13 ∧ G272 13 ≤ 2147483647 := hW278.1 13
      refine jx_vr (pc' := 178) (as := [.int (i32 (58))]) (st := [.ref 66]) rfl rfl rfl rfl ⟨rfl, rfl, Nat.le_of_ble_eq_true rfl⟩ rfl rfl (c_is (dd := d) (hd := by omega) (hW := hW298) (k := 58) (tk := tk2_276) (e_tk := show G272 11 = tk2_276 from (e282)) (tn := G272 13) (e_tn := show G272 13 = G272 13 from rfl)  (h_k := ⟨(by decide), (by decide)⟩)  ) (fun o V' hq => ?_)
      obtain ⟨r302, rfl, rfl, b303, q304⟩ := hq
      refine .inr ⟨_, rfl, ?_⟩
      rcases q304 with ⟨rfl, a305, a306, a307⟩ | rfl
      · have _q : True := trivial
        refine jx_vr (pc' := 181) (as := [.int (i32 (1))]) (st := []) rfl rfl rfl rfl ⟨rfl, rfl, Nat.le_of_ble_eq_true rfl⟩ rfl rfl (c_need (dd := d) (hd := by omega) (hW := hW298) (g := 1) (ln := ln) (e_ln := show G272 9 = ln from ((hF279.1 9 rfl).trans (fx_9))) (le := le) (e_le := show A297 4 (ln).toNat = le from (congrFun (((congrFun eA297 4).trans (uA_ne (by decide))).trans ((hF279.2 4 rfl).trans (hFx.2 4 rfl))) _).trans (e_le)) (at0 := at2_275) (e_at0 := show G272 10 = at2_275 from (e281)) (fk := fk2_277) (e_fk := show G272 16 = fk2_277 from (e283)) (tk0 := tk2_276) (e_tk0 := show G272 11 = tk2_276 from (e282))  (h_g := ⟨(by decide), (by decide)⟩)  (p_0 := by omega)) (fun o V' hq => ?_)
        obtain ⟨G308, A309, at2_310, tk2_311, fk2_312, rfl, rfl, hW313, hF314, e315, e316, e317, p318, p319, q320⟩ := hq
        have hF321 := Fr_tr hF299 hF314 (Fr_sub (by decide)) (Fr_sub (by decide))
        have bat2_310 : (0 : Int) ≤ at2_310 ∧ at2_310 ≤ 3002 := e315 ▸ hW313.1 10
        have ztk2_311 := tz_b tk2_311
        have btk2_311 : (0 : Int) ≤ tk2_311 ∧ tk2_311 ≤ 5 := e316 ▸ hW313.1 11
        have bfk2_312 : (0 : Int) ≤ fk2_312 ∧ fk2_312 ≤ 6 := e317 ▸ hW313.1 16
        refine .inl ⟨rfl, ?_⟩
        rcases q320 with ⟨a322, a323, a324, a325⟩ | ⟨a326, a327, a328, a329⟩
        · have _q : True := trivial
          refine jx_ld (pc' := 182) (l' := L) (st' := [.ref 66]) rfl (jl_aloadn gL_0) ?_
          refine jx_vr (pc' := 185) (as := []) (st := []) rfl rfl rfl rfl ⟨rfl, rfl, Nat.le_of_ble_eq_true rfl⟩ rfl rfl (c_endLine (dd := d) (hd := by omega) (hW := hW313)  (ln := ln) (e_ln := show G308 9 = ln from ((hF314.1 9 rfl).trans ((hF279.1 9 rfl).trans (fx_9)))) (li := li) (e_li := show G308 3 = li from ((hF314.1 3 rfl).trans ((hF279.1 3 rfl).trans ((hFx.1 3 rfl).trans (e_li))))) (fk := fk2_312) (e_fk := show G308 16 = fk2_312 from (e317)) (tk0 := tk2_311) (e_tk0 := show G308 11 = tk2_311 from (e316))    (p_0 := by omega)) (fun o V' hq => ?_)
          obtain ⟨G330, A331, ln2_332, fk2_333, rfl, rfl, hW334, hF335, e336, e337, q338⟩ := hq
          have hF339 := Fr_tr hF321 hF335 (Fr_sub (by decide)) (Fr_sub (by decide))
          have bln2_332 : (0 : Int) ≤ ln2_332 ∧ ln2_332 ≤ 3000 := e336 ▸ hW334.1 9
          have bfk2_333 : (0 : Int) ≤ fk2_333 ∧ fk2_333 ≤ 6 := e337 ▸ hW334.1 16
          refine .inl ⟨rfl, ?_⟩
          rcases q338 with ⟨a340, a341, a342, a343, a344⟩ | ⟨a345, a346⟩
          · have _q : True := trivial
            exfalso
            omega
          · have _q : True := trivial
            refine jx_ld (pc' := 186) (l' := L) (st' := [.ref 66]) rfl (jl_aloadn gL_0) ?_
            refine jx_vr (pc' := 189) (as := []) (st := []) rfl rfl rfl rfl ⟨rfl, rfl, Nat.le_of_ble_eq_true rfl⟩ rfl rfl (c_bad (dd := d) (hd := by omega) (hW := hW334)  (fk := fk2_333) (e_fk := show G330 16 = fk2_333 from (e337))    ) (fun o V' hq => ?_)
            obtain ⟨r347, rfl, rfl, b348, q349⟩ := hq
            refine .inr ⟨_, rfl, ?_⟩
            rcases q349 with ⟨rfl, a350⟩ | ⟨rfl, a351⟩
            · have _q : True := trivial
              refine jx_if_ne (pc' := 192) (tg := 217) rfl rfl rfl (by decide) (by decide) (fun h352 => ?_) (fun h352 => ?_)
              · have _q := h352
                refine jx_rt (v := none) rfl rfl rfl rfl rfl rfl ?_
                exact ⟨_, _, ln2_332, at2_310, fk2_333, sy1, na1, vi, rfl, rfl, hW334, hF339, (e336), ((hF335.1 10 rfl).trans (e315)), (e337), ((hF335.1 19 rfl).trans ((hF314.1 19 rfl).trans ((hF279.1 19 rfl).trans (ex_sy1)))), ((hF335.1 28 rfl).trans ((hF314.1 28 rfl).trans ((hF279.1 28 rfl).trans (ex_na1)))), ((hF335.1 29 rfl).trans ((hF314.1 29 rfl).trans ((hF279.1 29 rfl).trans (fx_29)))), by omega, by omega, by omega, by omega, by omega, by omega, by omega, by first | exact Or.inl (by omega) | exact Or.inr ((⟨by omega, by omega⟩))⟩
              · have _q := h352
                exact absurd h352 (by omega)
            · have _q : True := trivial
              exfalso
              omega
        · have _q : True := trivial
          exfalso
          omega
      · have _q : True := trivial
        refine jx_vr (pc' := 181) (as := [.int (i32 (0))]) (st := []) rfl rfl rfl rfl ⟨rfl, rfl, Nat.le_of_ble_eq_true rfl⟩ rfl rfl (c_need (dd := d) (hd := by omega) (hW := hW298) (g := 0) (ln := ln) (e_ln := show G272 9 = ln from ((hF279.1 9 rfl).trans (fx_9))) (le := le) (e_le := show A297 4 (ln).toNat = le from (congrFun (((congrFun eA297 4).trans (uA_ne (by decide))).trans ((hF279.2 4 rfl).trans (hFx.2 4 rfl))) _).trans (e_le)) (at0 := at2_275) (e_at0 := show G272 10 = at2_275 from (e281)) (fk := fk2_277) (e_fk := show G272 16 = fk2_277 from (e283)) (tk0 := tk2_276) (e_tk0 := show G272 11 = tk2_276 from (e282))  (h_g := ⟨(by decide), (by decide)⟩)  (p_0 := by omega)) (fun o V' hq => ?_)
        obtain ⟨G353, A354, at2_355, tk2_356, fk2_357, rfl, rfl, hW358, hF359, e360, e361, e362, p363, p364, q365⟩ := hq
        have hF366 := Fr_tr hF299 hF359 (Fr_sub (by decide)) (Fr_sub (by decide))
        have bat2_355 : (0 : Int) ≤ at2_355 ∧ at2_355 ≤ 3002 := e360 ▸ hW358.1 10
        have ztk2_356 := tz_b tk2_356
        have btk2_356 : (0 : Int) ≤ tk2_356 ∧ tk2_356 ≤ 5 := e361 ▸ hW358.1 11
        have bfk2_357 : (0 : Int) ≤ fk2_357 ∧ fk2_357 ≤ 6 := e362 ▸ hW358.1 16
        refine .inl ⟨rfl, ?_⟩
        rcases q365 with ⟨a367, a368, a369, a370⟩ | ⟨a371, a372, a373, a374⟩
        · have _q : True := trivial
          refine jx_ld (pc' := 182) (l' := L) (st' := [.ref 66]) rfl (jl_aloadn gL_0) ?_
          refine jx_vr (pc' := 185) (as := []) (st := []) rfl rfl rfl rfl ⟨rfl, rfl, Nat.le_of_ble_eq_true rfl⟩ rfl rfl (c_endLine (dd := d) (hd := by omega) (hW := hW358)  (ln := ln) (e_ln := show G353 9 = ln from ((hF359.1 9 rfl).trans ((hF279.1 9 rfl).trans (fx_9)))) (li := li) (e_li := show G353 3 = li from ((hF359.1 3 rfl).trans ((hF279.1 3 rfl).trans ((hFx.1 3 rfl).trans (e_li))))) (fk := fk2_357) (e_fk := show G353 16 = fk2_357 from (e362)) (tk0 := tk2_356) (e_tk0 := show G353 11 = tk2_356 from (e361))    (p_0 := by omega)) (fun o V' hq => ?_)
          obtain ⟨G375, A376, ln2_377, fk2_378, rfl, rfl, hW379, hF380, e381, e382, q383⟩ := hq
          have hF384 := Fr_tr hF366 hF380 (Fr_sub (by decide)) (Fr_sub (by decide))
          have bln2_377 : (0 : Int) ≤ ln2_377 ∧ ln2_377 ≤ 3000 := e381 ▸ hW379.1 9
          have bfk2_378 : (0 : Int) ≤ fk2_378 ∧ fk2_378 ≤ 6 := e382 ▸ hW379.1 16
          refine .inl ⟨rfl, ?_⟩
          rcases q383 with ⟨a385, a386, a387, a388, a389⟩ | ⟨a390, a391⟩
          · have _q : True := trivial
            exfalso
            omega
          · have _q : True := trivial
            refine jx_ld (pc' := 186) (l' := L) (st' := [.ref 66]) rfl (jl_aloadn gL_0) ?_
            refine jx_vr (pc' := 189) (as := []) (st := []) rfl rfl rfl rfl ⟨rfl, rfl, Nat.le_of_ble_eq_true rfl⟩ rfl rfl (c_bad (dd := d) (hd := by omega) (hW := hW379)  (fk := fk2_378) (e_fk := show G375 16 = fk2_378 from (e382))    ) (fun o V' hq => ?_)
            obtain ⟨r392, rfl, rfl, b393, q394⟩ := hq
            refine .inr ⟨_, rfl, ?_⟩
            rcases q394 with ⟨rfl, a395⟩ | ⟨rfl, a396⟩
            · have _q : True := trivial
              refine jx_if_ne (pc' := 192) (tg := 217) rfl rfl rfl (by decide) (by decide) (fun h397 => ?_) (fun h397 => ?_)
              · have _q := h397
                refine jx_rt (v := none) rfl rfl rfl rfl rfl rfl ?_
                exact ⟨_, _, ln2_377, at2_355, fk2_378, sy1, na1, vi, rfl, rfl, hW379, hF384, (e381), ((hF380.1 10 rfl).trans (e360)), (e382), ((hF380.1 19 rfl).trans ((hF359.1 19 rfl).trans ((hF279.1 19 rfl).trans (ex_sy1)))), ((hF380.1 28 rfl).trans ((hF359.1 28 rfl).trans ((hF279.1 28 rfl).trans (ex_na1)))), ((hF380.1 29 rfl).trans ((hF359.1 29 rfl).trans ((hF279.1 29 rfl).trans (fx_29)))), by omega, by omega, by omega, by omega, by omega, by omega, by omega, by first | exact Or.inl (by omega) | exact Or.inr ((⟨by omega, by omega⟩))⟩
              · have _q := h397
                exact absurd h397 (by omega)
            · have _q : True := trivial
              exfalso
              omega
        · have _q : True := trivial
          exfalso
          omega
    · have _q : True := trivial
      exfalso
      omega
  have at_106 : ∀ (L : jL) (Gx : Nat → Int) (Ax : Nat → Nat → Int) (s at1 tk1 fk1 sy1 na1 : Int), jGet L 0 = some (.ref 66) → jGet L 1 = some (.int (i32 s)) → Wk Gx Ax → Fr [9, 10, 11, 12, 13, 14, 16, 17, 18, 19, 28, 29, 52] [6, 7, 8, 9, 10, 11, 12, 14, 34, 35] G A Gx Ax → Gx 10 = at1 → Gx 11 = tk1 → Gx 16 = fk1 → Gx 19 = sy1 → Gx 28 = na1 → Gx 9 = ln → Gx 29 = vi → Gx 52 = lk0 → ((-2147483648 : Int) ≤ s ∧ s ≤ 2147483647) → (fk1 = 0) → (at0 ≤ at1) → (at1 ≤ le) → (sy1 = sy + 1) → (sy1 ≤ na1 + 2) → (s = sy) → (lk0 ≤ 11) → wj X d jm310 (106, L, [], rV c0 c1 Gx Ax T) (fun o V' => ∃ (G' : Nat → Int) (A' : Nat → Nat → Int) (ln2 : Int) (at2 : Int) (fk2 : Int) (sy2 : Int) (na2 : Int) (vi2 : Int), V' = rV c0 c1 G' A' T ∧ o = .inl none ∧ Wk G' A' ∧ Fr [9, 10, 11, 12, 13, 14, 16, 17, 18, 19, 28, 29, 52] [6, 7, 8, 9, 10, 11, 12, 14, 34, 35] G A G' A' ∧ G' 9 = ln2 ∧ G' 10 = at2 ∧ G' 16 = fk2 ∧ G' 19 = sy2 ∧ G' 28 = na2 ∧ G' 29 = vi2 ∧ (at0 ≤ at2) ∧ (at2 ≤ le) ∧ (sy ≤ sy2) ∧ (sy2 ≤ na2 + 2) ∧ (vi2 ≤ sy2) ∧ (ln ≤ ln2) ∧ (ln2 ≤ li) ∧ (((1 ≤ fk2)) ∨ ((fk2 = 0) ∧ (ln2 = ln + 1)))) := by
    intro L Gx Ax s at1 tk1 fk1 sy1 na1 gL_0 gL_1 hWx hFx ex_at1 ex_tk1 ex_fk1 ex_sy1 ex_na1 fx_9 fx_29 fx_52 rx_s iv_0 iv_1 iv_2 iv_3 iv_4 iv_5 iv_6
    have b_at1 : (0 : Int) ≤ at1 ∧ at1 ≤ 3002 := ex_at1 ▸ hWx.1 10
    have b_tk1 : (0 : Int) ≤ tk1 ∧ tk1 ≤ 5 := ex_tk1 ▸ hWx.1 11
    have b_fk1 : (0 : Int) ≤ fk1 ∧ fk1 ≤ 6 := ex_fk1 ▸ hWx.1 16
    have b_sy1 : (0 : Int) ≤ sy1 ∧ sy1 ≤ 202 := ex_sy1 ▸ hWx.1 19
    have b_na1 : (0 : Int) ≤ na1 ∧ na1 ≤ 200 := ex_na1 ▸ hWx.1 28
    refine jx_ld (pc' := 107) (l' := L) (st' := [.ref 66]) rfl (jl_aloadn gL_0) ?_
    refine jx_ld (pc' := 108) (l' := L) (st' := [.ref 66, .ref 66]) rfl (jl_aloadn gL_0) ?_
    refine jx_ar (pc' := 110) (st' := [.int (i32 (23)), .ref 66, .ref 66]) rfl rfl rfl rfl ?_
    have b398 : (-2147483648 : Int) ≤ Gx 13 ∧ Gx 13 ≤ 2147483647 := hWx.1 13
    refine jx_vr (pc' := 113) (as := [.int (i32 (23))]) (st := [.ref 66]) rfl rfl rfl rfl ⟨rfl, rfl, Nat.le_of_ble_eq_true rfl⟩ rfl rfl (c_isKey (dd := d) (hd := by omega) (hW := hWx) (k := 23) (tk := tk1) (e_tk := show Gx 11 = tk1 from (ex_tk1)) (tn := Gx 13) (e_tn := show Gx 13 = Gx 13 from rfl)  (h_k := ⟨(by decide), (by decide)⟩)  ) (fun o V' hq => ?_)
    obtain ⟨r399, rfl, rfl, b400, q401⟩ := hq
    refine .inr ⟨_, rfl, ?_⟩
    rcases q401 with ⟨rfl, a402, a403, a404⟩ | rfl
    · have _q : True := trivial
      refine jx_vr (pc' := 116) (as := [.int (i32 (1))]) (st := []) rfl rfl rfl rfl ⟨rfl, rfl, Nat.le_of_ble_eq_true rfl⟩ rfl rfl (c_need (dd := d) (hd := by omega) (hW := hWx) (g := 1) (ln := ln) (e_ln := show Gx 9 = ln from (fx_9)) (le := le) (e_le := show Ax 4 (ln).toNat = le from (congrFun (hFx.2 4 rfl) _).trans (e_le)) (at0 := at1) (e_at0 := show Gx 10 = at1 from (ex_at1)) (fk := fk1) (e_fk := show Gx 16 = fk1 from (ex_fk1)) (tk0 := tk1) (e_tk0 := show Gx 11 = tk1 from (ex_tk1))  (h_g := ⟨(by decide), (by decide)⟩)  (p_0 := by omega)) (fun o V' hq => ?_)
      obtain ⟨G405, A406, at2_407, tk2_408, fk2_409, rfl, rfl, hW410, hF411, e412, e413, e414, p415, p416, q417⟩ := hq
      have hF418 := Fr_tr hFx hF411 (Fr_sub (by decide)) (Fr_sub (by decide))
      have bat2_407 : (0 : Int) ≤ at2_407 ∧ at2_407 ≤ 3002 := e412 ▸ hW410.1 10
      have ztk2_408 := tz_b tk2_408
      have btk2_408 : (0 : Int) ≤ tk2_408 ∧ tk2_408 ≤ 5 := e413 ▸ hW410.1 11
      have bfk2_409 : (0 : Int) ≤ fk2_409 ∧ fk2_409 ≤ 6 := e414 ▸ hW410.1 16
      refine .inl ⟨rfl, ?_⟩
      rcases q417 with ⟨a419, a420, a421, a422⟩ | ⟨a423, a424, a425, a426⟩
      · have _q : True := trivial
        refine jx_ld (pc' := 117) (l' := L) (st' := [.ref 66]) rfl (jl_aloadn gL_0) ?_
        refine jx_vr (pc' := 120) (as := []) (st := []) rfl rfl rfl rfl ⟨rfl, rfl, Nat.le_of_ble_eq_true rfl⟩ rfl rfl (c_bad (dd := d) (hd := by omega) (hW := hW410)  (fk := fk2_409) (e_fk := show G405 16 = fk2_409 from (e414))    ) (fun o V' hq => ?_)
        obtain ⟨r427, rfl, rfl, b428, q429⟩ := hq
        refine .inr ⟨_, rfl, ?_⟩
        rcases q429 with ⟨rfl, a430⟩ | ⟨rfl, a431⟩
        · have _q : True := trivial
          refine jx_if_ne (pc' := 123) (tg := 156) rfl rfl rfl (by decide) (by decide) (fun h432 => ?_) (fun h432 => ?_)
          · have _q := h432
            exact at_156p L G405 A406 (s) (at2_407) (tk2_408) (fk2_409) (sy1) (na1) gL_0 gL_1 hW410 hF418 ((e412)) ((e413)) ((e414)) (((hF411.1 19 rfl).trans (ex_sy1))) (((hF411.1 28 rfl).trans (ex_na1))) (((hF411.1 9 rfl).trans (fx_9))) (((hF411.1 29 rfl).trans (fx_29))) (((hF411.1 52 rfl).trans (fx_52))) (by omega) (by omega) (by omega) (by omega) (by omega) (by omega)
          · have _q := h432
            exact absurd h432 (by omega)
        · have _q : True := trivial
          exfalso
          omega
      · have _q : True := trivial
        refine jx_ld (pc' := 117) (l' := L) (st' := [.ref 66]) rfl (jl_aloadn gL_0) ?_
        refine jx_vr (pc' := 120) (as := []) (st := []) rfl rfl rfl rfl ⟨rfl, rfl, Nat.le_of_ble_eq_true rfl⟩ rfl rfl (c_bad (dd := d) (hd := by omega) (hW := hW410)  (fk := fk2_409) (e_fk := show G405 16 = fk2_409 from (e414))    ) (fun o V' hq => ?_)
        obtain ⟨r433, rfl, rfl, b434, q435⟩ := hq
        refine .inr ⟨_, rfl, ?_⟩
        rcases q435 with ⟨rfl, a436⟩ | ⟨rfl, a437⟩
        · have _q : True := trivial
          exfalso
          omega
        · have _q : True := trivial
          refine jx_if_ne (pc' := 123) (tg := 156) rfl rfl rfl (by decide) (by decide) (fun h438 => ?_) (fun h438 => ?_)
          · have _q := h438
            exact absurd h438 (by omega)
          · have _q := h438
            refine jx_ld (pc' := 124) (l' := L) (st' := [.ref 66]) rfl (jl_aloadn gL_0) ?_
            refine jr_get (pc' := 127) (i := 11) (v := .int (i32 (tk2_408))) rfl rfl (by decide) (rFv_eq (by decide) (show G405 11 = tk2_408 from (e413))) rfl ?_
            refine jx_ar (pc' := 128) (st' := [.int (i32 (3)), .int (i32 (tk2_408))]) rfl rfl rfl rfl ?_
            refine jx_icmp_ne (pc' := 131) (tg := 156) rfl rfl rfl (Int.le_trans (by decide : (-2147483648 : Int) ≤ 0) btk2_408.1) (Int.le_trans btk2_408.2 (by decide : (5 : Int) ≤ 2147483647)) (by decide) (by decide) (fun h439 => ?_) (fun h439 => ?_)
            · have _q := h439
              exact at_156 L G405 A406 (s) (at2_407) (tk2_408) (fk2_409) (sy1) (na1) gL_0 gL_1 hW410 hF418 ((e412)) ((e413)) ((e414)) (((hF411.1 19 rfl).trans (ex_sy1))) (((hF411.1 28 rfl).trans (ex_na1))) (((hF411.1 9 rfl).trans (fx_9))) (((hF411.1 29 rfl).trans (fx_29))) (((hF411.1 52 rfl).trans (fx_52))) (by omega) (by omega) (by omega) (by omega) (by omega) (by omega) (by omega) (by omega)
            · have _q := h439
              refine jx_ld (pc' := 132) (l' := L) (st' := [.ref 66]) rfl (jl_aloadn gL_0) ?_
              have b440 : (-2147483648 : Int) ≤ G405 13 ∧ G405 13 ≤ 2147483647 := hW410.1 13
              refine jr_get (pc' := 135) (i := 13) (v := .int (i32 (G405 13))) rfl rfl (by decide) rfl rfl ?_
              refine jx_ld (pc' := 136) (l' := L) (st' := [.ref 66, .int (i32 (G405 13))]) rfl (jl_aloadn gL_0) ?_
              refine jr_get (pc' := 139) (i := 53) (v := .ref 101) rfl rfl (by decide) rfl rfl ?_
              refine jx_ld (pc' := 140) (l' := L) (st' := [.ref 66, .ref 101, .int (i32 (G405 13))]) rfl (jl_aloadn gL_0) ?_
              refine jr_get (pc' := 143) (i := 52) (v := .int (i32 (lk0))) rfl rfl (by decide) (rFv_eq (by decide) (show G405 52 = lk0 from ((hF411.1 52 rfl).trans (fx_52)))) rfl ?_
              have b441 : (-2147483648 : Int) ≤ Ax 34 (lk0).toNat ∧ Ax 34 (lk0).toNat ≤ 2147483647 := hWx.2 34 _
              refine jr_ldv (pc' := 144) (i := 34) (m := 13) (z := lk0) (y := Ax 34 (lk0).toNat) rfl (by decide) rfl (by decide) (Int.le_trans (by decide : (0 : Int) ≤ 0) b_lk0.1) (Int.lt_of_le_of_lt b_lk0.2 (by decide : (12 : Int) < ((13 : Nat) : Int))) rfl (show A406 34 (lk0).toNat = Ax 34 (lk0).toNat from (congrFun (hF411.2 34 rfl) _)) ?_
              refine jx_icmp_ne (pc' := 147) (tg := 156) rfl rfl rfl (Int.le_trans (by decide : (-2147483648 : Int) ≤ -2147483648) b440.1) (Int.le_trans b440.2 (by decide : (2147483647 : Int) ≤ 2147483647)) (Int.le_trans (by decide : (-2147483648 : Int) ≤ -2147483648) b441.1) (Int.le_trans b441.2 (by decide : (2147483647 : Int) ≤ 2147483647)) (fun h442 => ?_) (fun h442 => ?_)
              · have _q := h442
                exact at_156 L G405 A406 (s) (at2_407) (tk2_408) (fk2_409) (sy1) (na1) gL_0 gL_1 hW410 hF418 ((e412)) ((e413)) ((e414)) (((hF411.1 19 rfl).trans (ex_sy1))) (((hF411.1 28 rfl).trans (ex_na1))) (((hF411.1 9 rfl).trans (fx_9))) (((hF411.1 29 rfl).trans (fx_29))) (((hF411.1 52 rfl).trans (fx_52))) (by omega) (by omega) (by omega) (by omega) (by omega) (by omega) (by omega) (by omega)
              · have _q := h442
                refine jx_ld (pc' := 148) (l' := L) (st' := [.ref 66]) rfl (jl_aloadn gL_0) ?_
                refine jx_ar (pc' := 149) (st' := [.int (i32 (1)), .ref 66]) rfl rfl rfl rfl ?_
                refine jx_ld (pc' := 150) (l' := L) (st' := [.ref 66, .int (i32 (1)), .ref 66]) rfl (jl_aloadn gL_0) ?_
                have b443 : (-3000 : Int) ≤ G405 12 ∧ G405 12 ≤ 3002 := hW410.1 12
                refine jr_get (pc' := 153) (i := 12) (v := .int (i32 (G405 12))) rfl rfl (by decide) rfl rfl ?_
                refine jx_vr (pc' := 156) (as := [.int (i32 (1)), .int (i32 (G405 12))]) (st := []) rfl rfl rfl rfl ⟨rfl, rfl, Nat.le_of_ble_eq_true rfl⟩ rfl rfl (c_fail (dd := d) (hd := by omega) (hW := hW410) (kind := 1) (place := G405 12) (fk := fk2_409) (e_fk := show G405 16 = fk2_409 from (e414))  (h_kind := ⟨(by decide), (by decide)⟩) (h_place := ⟨(Int.le_trans (by decide : (-2147483648 : Int) ≤ -3000) b443.1), (Int.le_trans b443.2 (by decide : (3002 : Int) ≤ 2147483647))⟩)  (p_0 := by omega) (p_1 := by omega)) (fun o V' hq => ?_)
                obtain ⟨G444, A445, fk2_446, rfl, rfl, hW447, hF448, e449, p450, -⟩ := hq
                have hF452 := Fr_tr hF418 hF448 (Fr_sub (by decide)) (Fr_sub (by decide))
                have bfk2_446 : (0 : Int) ≤ fk2_446 ∧ fk2_446 ≤ 6 := e449 ▸ hW447.1 16
                refine .inl ⟨rfl, ?_⟩
                exact at_156p L G444 A445 (s) (at2_407) (tk2_408) (fk2_446) (sy1) (na1) gL_0 gL_1 hW447 hF452 (((hF448.1 10 rfl).trans (e412))) (((hF448.1 11 rfl).trans (e413))) ((e449)) (((hF448.1 19 rfl).trans ((hF411.1 19 rfl).trans (ex_sy1)))) (((hF448.1 28 rfl).trans ((hF411.1 28 rfl).trans (ex_na1)))) (((hF448.1 9 rfl).trans ((hF411.1 9 rfl).trans (fx_9)))) (((hF448.1 29 rfl).trans ((hF411.1 29 rfl).trans (fx_29)))) (((hF448.1 52 rfl).trans ((hF411.1 52 rfl).trans (fx_52)))) (by omega) (by omega) (by omega) (by omega) (by omega) (by omega)
    · have _q : True := trivial
      refine jx_vr (pc' := 116) (as := [.int (i32 (0))]) (st := []) rfl rfl rfl rfl ⟨rfl, rfl, Nat.le_of_ble_eq_true rfl⟩ rfl rfl (c_need (dd := d) (hd := by omega) (hW := hWx) (g := 0) (ln := ln) (e_ln := show Gx 9 = ln from (fx_9)) (le := le) (e_le := show Ax 4 (ln).toNat = le from (congrFun (hFx.2 4 rfl) _).trans (e_le)) (at0 := at1) (e_at0 := show Gx 10 = at1 from (ex_at1)) (fk := fk1) (e_fk := show Gx 16 = fk1 from (ex_fk1)) (tk0 := tk1) (e_tk0 := show Gx 11 = tk1 from (ex_tk1))  (h_g := ⟨(by decide), (by decide)⟩)  (p_0 := by omega)) (fun o V' hq => ?_)
      obtain ⟨G453, A454, at2_455, tk2_456, fk2_457, rfl, rfl, hW458, hF459, e460, e461, e462, p463, p464, q465⟩ := hq
      have hF466 := Fr_tr hFx hF459 (Fr_sub (by decide)) (Fr_sub (by decide))
      have bat2_455 : (0 : Int) ≤ at2_455 ∧ at2_455 ≤ 3002 := e460 ▸ hW458.1 10
      have ztk2_456 := tz_b tk2_456
      have btk2_456 : (0 : Int) ≤ tk2_456 ∧ tk2_456 ≤ 5 := e461 ▸ hW458.1 11
      have bfk2_457 : (0 : Int) ≤ fk2_457 ∧ fk2_457 ≤ 6 := e462 ▸ hW458.1 16
      refine .inl ⟨rfl, ?_⟩
      rcases q465 with ⟨a467, a468, a469, a470⟩ | ⟨a471, a472, a473, a474⟩
      · have _q : True := trivial
        refine jx_ld (pc' := 117) (l' := L) (st' := [.ref 66]) rfl (jl_aloadn gL_0) ?_
        refine jx_vr (pc' := 120) (as := []) (st := []) rfl rfl rfl rfl ⟨rfl, rfl, Nat.le_of_ble_eq_true rfl⟩ rfl rfl (c_bad (dd := d) (hd := by omega) (hW := hW458)  (fk := fk2_457) (e_fk := show G453 16 = fk2_457 from (e462))    ) (fun o V' hq => ?_)
        obtain ⟨r475, rfl, rfl, b476, q477⟩ := hq
        refine .inr ⟨_, rfl, ?_⟩
        rcases q477 with ⟨rfl, a478⟩ | ⟨rfl, a479⟩
        · have _q : True := trivial
          refine jx_if_ne (pc' := 123) (tg := 156) rfl rfl rfl (by decide) (by decide) (fun h480 => ?_) (fun h480 => ?_)
          · have _q := h480
            exact at_156p L G453 A454 (s) (at2_455) (tk2_456) (fk2_457) (sy1) (na1) gL_0 gL_1 hW458 hF466 ((e460)) ((e461)) ((e462)) (((hF459.1 19 rfl).trans (ex_sy1))) (((hF459.1 28 rfl).trans (ex_na1))) (((hF459.1 9 rfl).trans (fx_9))) (((hF459.1 29 rfl).trans (fx_29))) (((hF459.1 52 rfl).trans (fx_52))) (by omega) (by omega) (by omega) (by omega) (by omega) (by omega)
          · have _q := h480
            exact absurd h480 (by omega)
        · have _q : True := trivial
          exfalso
          omega
      · have _q : True := trivial
        exfalso
        omega
  have at_106p : ∀ (L : jL) (Gx : Nat → Int) (Ax : Nat → Nat → Int) (s at1 tk1 fk1 sy1 na1 : Int), jGet L 0 = some (.ref 66) → jGet L 1 = some (.int (i32 s)) → Wk Gx Ax → Fr [9, 10, 11, 12, 13, 14, 16, 17, 18, 19, 28, 29, 52] [6, 7, 8, 9, 10, 11, 12, 14, 34, 35] G A Gx Ax → Gx 10 = at1 → Gx 11 = tk1 → Gx 16 = fk1 → Gx 19 = sy1 → Gx 28 = na1 → Gx 9 = ln → Gx 29 = vi → Gx 52 = lk0 → ((-2147483648 : Int) ≤ s ∧ s ≤ 2147483647) → (1 ≤ fk1) → (at0 ≤ at1) → (at1 ≤ le) → (sy ≤ sy1) → (sy1 ≤ na1 + 2) → wj X d jm310 (106, L, [], rV c0 c1 Gx Ax T) (fun o V' => ∃ (G' : Nat → Int) (A' : Nat → Nat → Int) (ln2 : Int) (at2 : Int) (fk2 : Int) (sy2 : Int) (na2 : Int) (vi2 : Int), V' = rV c0 c1 G' A' T ∧ o = .inl none ∧ Wk G' A' ∧ Fr [9, 10, 11, 12, 13, 14, 16, 17, 18, 19, 28, 29, 52] [6, 7, 8, 9, 10, 11, 12, 14, 34, 35] G A G' A' ∧ G' 9 = ln2 ∧ G' 10 = at2 ∧ G' 16 = fk2 ∧ G' 19 = sy2 ∧ G' 28 = na2 ∧ G' 29 = vi2 ∧ (at0 ≤ at2) ∧ (at2 ≤ le) ∧ (sy ≤ sy2) ∧ (sy2 ≤ na2 + 2) ∧ (vi2 ≤ sy2) ∧ (ln ≤ ln2) ∧ (ln2 ≤ li) ∧ (((1 ≤ fk2)) ∨ ((fk2 = 0) ∧ (ln2 = ln + 1)))) := by
    intro L Gx Ax s at1 tk1 fk1 sy1 na1 gL_0 gL_1 hWx hFx ex_at1 ex_tk1 ex_fk1 ex_sy1 ex_na1 fx_9 fx_29 fx_52 rx_s iv_0 iv_1 iv_2 iv_3 iv_4
    have b_at1 : (0 : Int) ≤ at1 ∧ at1 ≤ 3002 := ex_at1 ▸ hWx.1 10
    have b_tk1 : (0 : Int) ≤ tk1 ∧ tk1 ≤ 5 := ex_tk1 ▸ hWx.1 11
    have b_fk1 : (0 : Int) ≤ fk1 ∧ fk1 ≤ 6 := ex_fk1 ▸ hWx.1 16
    have b_sy1 : (0 : Int) ≤ sy1 ∧ sy1 ≤ 202 := ex_sy1 ▸ hWx.1 19
    have b_na1 : (0 : Int) ≤ na1 ∧ na1 ≤ 200 := ex_na1 ▸ hWx.1 28
    refine jx_ld (pc' := 107) (l' := L) (st' := [.ref 66]) rfl (jl_aloadn gL_0) ?_
    refine jx_ld (pc' := 108) (l' := L) (st' := [.ref 66, .ref 66]) rfl (jl_aloadn gL_0) ?_
    refine jx_ar (pc' := 110) (st' := [.int (i32 (23)), .ref 66, .ref 66]) rfl rfl rfl rfl ?_
    have b481 : (-2147483648 : Int) ≤ Gx 13 ∧ Gx 13 ≤ 2147483647 := hWx.1 13
    refine jx_vr (pc' := 113) (as := [.int (i32 (23))]) (st := [.ref 66]) rfl rfl rfl rfl ⟨rfl, rfl, Nat.le_of_ble_eq_true rfl⟩ rfl rfl (c_isKey (dd := d) (hd := by omega) (hW := hWx) (k := 23) (tk := tk1) (e_tk := show Gx 11 = tk1 from (ex_tk1)) (tn := Gx 13) (e_tn := show Gx 13 = Gx 13 from rfl)  (h_k := ⟨(by decide), (by decide)⟩)  ) (fun o V' hq => ?_)
    obtain ⟨r482, rfl, rfl, b483, q484⟩ := hq
    refine .inr ⟨_, rfl, ?_⟩
    rcases q484 with ⟨rfl, a485, a486, a487⟩ | rfl
    · have _q : True := trivial
      refine jx_vr (pc' := 116) (as := [.int (i32 (1))]) (st := []) rfl rfl rfl rfl ⟨rfl, rfl, Nat.le_of_ble_eq_true rfl⟩ rfl rfl (c_need (dd := d) (hd := by omega) (hW := hWx) (g := 1) (ln := ln) (e_ln := show Gx 9 = ln from (fx_9)) (le := le) (e_le := show Ax 4 (ln).toNat = le from (congrFun (hFx.2 4 rfl) _).trans (e_le)) (at0 := at1) (e_at0 := show Gx 10 = at1 from (ex_at1)) (fk := fk1) (e_fk := show Gx 16 = fk1 from (ex_fk1)) (tk0 := tk1) (e_tk0 := show Gx 11 = tk1 from (ex_tk1))  (h_g := ⟨(by decide), (by decide)⟩)  (p_0 := by omega)) (fun o V' hq => ?_)
      obtain ⟨G488, A489, at2_490, tk2_491, fk2_492, rfl, rfl, hW493, hF494, e495, e496, e497, p498, p499, q500⟩ := hq
      have hF501 := Fr_tr hFx hF494 (Fr_sub (by decide)) (Fr_sub (by decide))
      have bat2_490 : (0 : Int) ≤ at2_490 ∧ at2_490 ≤ 3002 := e495 ▸ hW493.1 10
      have ztk2_491 := tz_b tk2_491
      have btk2_491 : (0 : Int) ≤ tk2_491 ∧ tk2_491 ≤ 5 := e496 ▸ hW493.1 11
      have bfk2_492 : (0 : Int) ≤ fk2_492 ∧ fk2_492 ≤ 6 := e497 ▸ hW493.1 16
      refine .inl ⟨rfl, ?_⟩
      rcases q500 with ⟨a502, a503, a504, a505⟩ | ⟨a506, a507, a508, a509⟩
      · have _q : True := trivial
        refine jx_ld (pc' := 117) (l' := L) (st' := [.ref 66]) rfl (jl_aloadn gL_0) ?_
        refine jx_vr (pc' := 120) (as := []) (st := []) rfl rfl rfl rfl ⟨rfl, rfl, Nat.le_of_ble_eq_true rfl⟩ rfl rfl (c_bad (dd := d) (hd := by omega) (hW := hW493)  (fk := fk2_492) (e_fk := show G488 16 = fk2_492 from (e497))    ) (fun o V' hq => ?_)
        obtain ⟨r510, rfl, rfl, b511, q512⟩ := hq
        refine .inr ⟨_, rfl, ?_⟩
        rcases q512 with ⟨rfl, a513⟩ | ⟨rfl, a514⟩
        · have _q : True := trivial
          refine jx_if_ne (pc' := 123) (tg := 156) rfl rfl rfl (by decide) (by decide) (fun h515 => ?_) (fun h515 => ?_)
          · have _q := h515
            exact at_156p L G488 A489 (s) (at2_490) (tk2_491) (fk2_492) (sy1) (na1) gL_0 gL_1 hW493 hF501 ((e495)) ((e496)) ((e497)) (((hF494.1 19 rfl).trans (ex_sy1))) (((hF494.1 28 rfl).trans (ex_na1))) (((hF494.1 9 rfl).trans (fx_9))) (((hF494.1 29 rfl).trans (fx_29))) (((hF494.1 52 rfl).trans (fx_52))) (by omega) (by omega) (by omega) (by omega) (by omega) (by omega)
          · have _q := h515
            exact absurd h515 (by omega)
        · have _q : True := trivial
          exfalso
          omega
      · have _q : True := trivial
        exfalso
        omega
    · have _q : True := trivial
      refine jx_vr (pc' := 116) (as := [.int (i32 (0))]) (st := []) rfl rfl rfl rfl ⟨rfl, rfl, Nat.le_of_ble_eq_true rfl⟩ rfl rfl (c_need (dd := d) (hd := by omega) (hW := hWx) (g := 0) (ln := ln) (e_ln := show Gx 9 = ln from (fx_9)) (le := le) (e_le := show Ax 4 (ln).toNat = le from (congrFun (hFx.2 4 rfl) _).trans (e_le)) (at0 := at1) (e_at0 := show Gx 10 = at1 from (ex_at1)) (fk := fk1) (e_fk := show Gx 16 = fk1 from (ex_fk1)) (tk0 := tk1) (e_tk0 := show Gx 11 = tk1 from (ex_tk1))  (h_g := ⟨(by decide), (by decide)⟩)  (p_0 := by omega)) (fun o V' hq => ?_)
      obtain ⟨G516, A517, at2_518, tk2_519, fk2_520, rfl, rfl, hW521, hF522, e523, e524, e525, p526, p527, q528⟩ := hq
      have hF529 := Fr_tr hFx hF522 (Fr_sub (by decide)) (Fr_sub (by decide))
      have bat2_518 : (0 : Int) ≤ at2_518 ∧ at2_518 ≤ 3002 := e523 ▸ hW521.1 10
      have ztk2_519 := tz_b tk2_519
      have btk2_519 : (0 : Int) ≤ tk2_519 ∧ tk2_519 ≤ 5 := e524 ▸ hW521.1 11
      have bfk2_520 : (0 : Int) ≤ fk2_520 ∧ fk2_520 ≤ 6 := e525 ▸ hW521.1 16
      refine .inl ⟨rfl, ?_⟩
      rcases q528 with ⟨a530, a531, a532, a533⟩ | ⟨a534, a535, a536, a537⟩
      · have _q : True := trivial
        refine jx_ld (pc' := 117) (l' := L) (st' := [.ref 66]) rfl (jl_aloadn gL_0) ?_
        refine jx_vr (pc' := 120) (as := []) (st := []) rfl rfl rfl rfl ⟨rfl, rfl, Nat.le_of_ble_eq_true rfl⟩ rfl rfl (c_bad (dd := d) (hd := by omega) (hW := hW521)  (fk := fk2_520) (e_fk := show G516 16 = fk2_520 from (e525))    ) (fun o V' hq => ?_)
        obtain ⟨r538, rfl, rfl, b539, q540⟩ := hq
        refine .inr ⟨_, rfl, ?_⟩
        rcases q540 with ⟨rfl, a541⟩ | ⟨rfl, a542⟩
        · have _q : True := trivial
          refine jx_if_ne (pc' := 123) (tg := 156) rfl rfl rfl (by decide) (by decide) (fun h543 => ?_) (fun h543 => ?_)
          · have _q := h543
            exact at_156p L G516 A517 (s) (at2_518) (tk2_519) (fk2_520) (sy1) (na1) gL_0 gL_1 hW521 hF529 ((e523)) ((e524)) ((e525)) (((hF522.1 19 rfl).trans (ex_sy1))) (((hF522.1 28 rfl).trans (ex_na1))) (((hF522.1 9 rfl).trans (fx_9))) (((hF522.1 29 rfl).trans (fx_29))) (((hF522.1 52 rfl).trans (fx_52))) (by omega) (by omega) (by omega) (by omega) (by omega) (by omega)
          · have _q := h543
            exact absurd h543 (by omega)
        · have _q : True := trivial
          exfalso
          omega
      · have _q : True := trivial
        exfalso
        omega
  have at_81 : ∀ (L : jL) (Gx : Nat → Int) (Ax : Nat → Nat → Int) (s at1 tk1 fk1 sy1 na1 : Int), jGet L 0 = some (.ref 66) → jGet L 1 = some (.int (i32 s)) → Wk Gx Ax → Fr [9, 10, 11, 12, 13, 14, 16, 17, 18, 19, 28, 29, 52] [6, 7, 8, 9, 10, 11, 12, 14, 34, 35] G A Gx Ax → Gx 10 = at1 → Gx 11 = tk1 → Gx 16 = fk1 → Gx 19 = sy1 → Gx 28 = na1 → Gx 9 = ln → Gx 29 = vi → Gx 52 = lk0 → ((-2147483648 : Int) ≤ s ∧ s ≤ 2147483647) → (fk1 = 0) → (at0 ≤ at1) → (at1 ≤ le) → (sy1 = sy + 1) → (sy1 ≤ na1 + 2) → (s = sy) → (lk0 ≤ 11) → wj X d jm310 (81, L, [], rV c0 c1 Gx Ax T) (fun o V' => ∃ (G' : Nat → Int) (A' : Nat → Nat → Int) (ln2 : Int) (at2 : Int) (fk2 : Int) (sy2 : Int) (na2 : Int) (vi2 : Int), V' = rV c0 c1 G' A' T ∧ o = .inl none ∧ Wk G' A' ∧ Fr [9, 10, 11, 12, 13, 14, 16, 17, 18, 19, 28, 29, 52] [6, 7, 8, 9, 10, 11, 12, 14, 34, 35] G A G' A' ∧ G' 9 = ln2 ∧ G' 10 = at2 ∧ G' 16 = fk2 ∧ G' 19 = sy2 ∧ G' 28 = na2 ∧ G' 29 = vi2 ∧ (at0 ≤ at2) ∧ (at2 ≤ le) ∧ (sy ≤ sy2) ∧ (sy2 ≤ na2 + 2) ∧ (vi2 ≤ sy2) ∧ (ln ≤ ln2) ∧ (ln2 ≤ li) ∧ (((1 ≤ fk2)) ∨ ((fk2 = 0) ∧ (ln2 = ln + 1)))) := by
    intro L Gx Ax s at1 tk1 fk1 sy1 na1 gL_0 gL_1 hWx hFx ex_at1 ex_tk1 ex_fk1 ex_sy1 ex_na1 fx_9 fx_29 fx_52 rx_s iv_0 iv_1 iv_2 iv_3 iv_4 iv_5 iv_6
    have b_at1 : (0 : Int) ≤ at1 ∧ at1 ≤ 3002 := ex_at1 ▸ hWx.1 10
    have b_tk1 : (0 : Int) ≤ tk1 ∧ tk1 ≤ 5 := ex_tk1 ▸ hWx.1 11
    have b_fk1 : (0 : Int) ≤ fk1 ∧ fk1 ≤ 6 := ex_fk1 ▸ hWx.1 16
    have b_sy1 : (0 : Int) ≤ sy1 ∧ sy1 ≤ 202 := ex_sy1 ▸ hWx.1 19
    have b_na1 : (0 : Int) ≤ na1 ∧ na1 ≤ 200 := ex_na1 ▸ hWx.1 28
    refine jx_ld (pc' := 82) (l' := L) (st' := [.ref 66]) rfl (jl_aloadn gL_0) ?_
    refine jx_ld (pc' := 83) (l' := L) (st' := [.ref 66, .ref 66]) rfl (jl_aloadn gL_0) ?_
    refine jx_ar (pc' := 85) (st' := [.int (i32 (22)), .ref 66, .ref 66]) rfl rfl rfl rfl ?_
    have b544 : (-2147483648 : Int) ≤ Gx 13 ∧ Gx 13 ≤ 2147483647 := hWx.1 13
    refine jx_vr (pc' := 88) (as := [.int (i32 (22))]) (st := [.ref 66]) rfl rfl rfl rfl ⟨rfl, rfl, Nat.le_of_ble_eq_true rfl⟩ rfl rfl (c_isKey (dd := d) (hd := by omega) (hW := hWx) (k := 22) (tk := tk1) (e_tk := show Gx 11 = tk1 from (ex_tk1)) (tn := Gx 13) (e_tn := show Gx 13 = Gx 13 from rfl)  (h_k := ⟨(by decide), (by decide)⟩)  ) (fun o V' hq => ?_)
    obtain ⟨r545, rfl, rfl, b546, q547⟩ := hq
    refine .inr ⟨_, rfl, ?_⟩
    rcases q547 with ⟨rfl, a548, a549, a550⟩ | rfl
    · have _q : True := trivial
      refine jx_vr (pc' := 91) (as := [.int (i32 (1))]) (st := []) rfl rfl rfl rfl ⟨rfl, rfl, Nat.le_of_ble_eq_true rfl⟩ rfl rfl (c_need (dd := d) (hd := by omega) (hW := hWx) (g := 1) (ln := ln) (e_ln := show Gx 9 = ln from (fx_9)) (le := le) (e_le := show Ax 4 (ln).toNat = le from (congrFun (hFx.2 4 rfl) _).trans (e_le)) (at0 := at1) (e_at0 := show Gx 10 = at1 from (ex_at1)) (fk := fk1) (e_fk := show Gx 16 = fk1 from (ex_fk1)) (tk0 := tk1) (e_tk0 := show Gx 11 = tk1 from (ex_tk1))  (h_g := ⟨(by decide), (by decide)⟩)  (p_0 := by omega)) (fun o V' hq => ?_)
      obtain ⟨G551, A552, at2_553, tk2_554, fk2_555, rfl, rfl, hW556, hF557, e558, e559, e560, p561, p562, q563⟩ := hq
      have hF564 := Fr_tr hFx hF557 (Fr_sub (by decide)) (Fr_sub (by decide))
      have bat2_553 : (0 : Int) ≤ at2_553 ∧ at2_553 ≤ 3002 := e558 ▸ hW556.1 10
      have ztk2_554 := tz_b tk2_554
      have btk2_554 : (0 : Int) ≤ tk2_554 ∧ tk2_554 ≤ 5 := e559 ▸ hW556.1 11
      have bfk2_555 : (0 : Int) ≤ fk2_555 ∧ fk2_555 ≤ 6 := e560 ▸ hW556.1 16
      refine .inl ⟨rfl, ?_⟩
      rcases q563 with ⟨a565, a566, a567, a568⟩ | ⟨a569, a570, a571, a572⟩
      · have _q : True := trivial
        refine jx_ld (pc' := 92) (l' := L) (st' := [.ref 66]) rfl (jl_aloadn gL_0) ?_
        refine jr_get (pc' := 95) (i := 53) (v := .ref 101) rfl rfl (by decide) rfl rfl ?_
        refine jx_ld (pc' := 96) (l' := L) (st' := [.ref 66, .ref 101]) rfl (jl_aloadn gL_0) ?_
        refine jr_get (pc' := 99) (i := 52) (v := .int (i32 (lk0))) rfl rfl (by decide) (rFv_eq (by decide) (show G551 52 = lk0 from ((hF557.1 52 rfl).trans (fx_52)))) rfl ?_
        refine jx_ld (pc' := 100) (l' := L) (st' := [.ref 66, .int (i32 (lk0)), .ref 101]) rfl (jl_aloadn gL_0) ?_
        refine jx_ar (pc' := 101) (st' := [.int (i32 (0)), .ref 66, .int (i32 (lk0)), .ref 101]) rfl rfl rfl rfl ?_
        refine jx_ar (pc' := 102) (st' := [.int (i32 (5)), .int (i32 (0)), .ref 66, .int (i32 (lk0)), .ref 101]) rfl rfl rfl rfl ?_
        refine jx_vr (pc' := 105) (as := [.int (i32 (0)), .int (i32 (5))]) (st := [.int (i32 (lk0)), .ref 101]) rfl rfl rfl rfl ⟨rfl, rfl, Nat.le_of_ble_eq_true rfl⟩ rfl rfl (c_needNumber (dd := d) (hd := by omega) (hW := hW556) (lo := 0) (hi := 5) (ln := ln) (e_ln := show G551 9 = ln from ((hF557.1 9 rfl).trans (fx_9))) (le := le) (e_le := show A552 4 (ln).toNat = le from (congrFun ((hF557.2 4 rfl).trans (hFx.2 4 rfl)) _).trans (e_le)) (at0 := at2_553) (e_at0 := show G551 10 = at2_553 from (e558)) (fk := fk2_555) (e_fk := show G551 16 = fk2_555 from (e560)) (tk0 := tk2_554) (e_tk0 := show G551 11 = tk2_554 from (e559))  (h_lo := ⟨(by decide), (by decide)⟩) (h_hi := ⟨(by decide), (by decide)⟩)  (p_0 := by omega)) (fun o V' hq => ?_)
        obtain ⟨G573, A574, r575, at2_576, tk2_577, fk2_578, rfl, rfl, hW579, hF580, b581, e582, e583, e584, p585, p586, q587⟩ := hq
        have hF588 := Fr_tr hF564 hF580 (Fr_sub (by decide)) (Fr_sub (by decide))
        have bat2_576 : (0 : Int) ≤ at2_576 ∧ at2_576 ≤ 3002 := e582 ▸ hW579.1 10
        have ztk2_577 := tz_b tk2_577
        have btk2_577 : (0 : Int) ≤ tk2_577 ∧ tk2_577 ≤ 5 := e583 ▸ hW579.1 11
        have bfk2_578 : (0 : Int) ≤ fk2_578 ∧ fk2_578 ≤ 6 := e584 ▸ hW579.1 16
        refine .inr ⟨_, rfl, ?_⟩
        rcases q587 with ⟨a589, a590, a591, a592⟩ | ⟨a593, a594, a595, a596, a597⟩
        · have _q : True := trivial
          refine jr_st (pc' := 106) (i := 34) (m := 13) (z := lk0) (y := r575) rfl (by decide) rfl (by decide) (by omega) (by omega) rfl ?_
          have hW599 : Wk G573 (uA A574 34 (lk0).toNat (r575)) := Wk_a hW579 (show (-2147483648 : Int) ≤ r575 by omega) (show r575 ≤ (2147483647 : Int) by omega)
          have hF600 := Fr_a (z := r575) (k := 34) (n := (lk0).toNat) hF588 (by decide)
          obtain ⟨A598, eA598⟩ : ∃ q, q = uA A574 34 (lk0).toNat (r575) := ⟨_, rfl⟩
          rw [← eA598]
          rw [← eA598] at hW599 hF600
          have q601 : A598 34 (lk0).toNat = r575 := by rw [eA598]; exact uA_eq
          exact at_106p L G573 A598 (s) (at2_576) (tk2_577) (fk2_578) (sy1) (na1) gL_0 gL_1 hW599 hF600 ((e582)) ((e583)) ((e584)) (((hF580.1 19 rfl).trans ((hF557.1 19 rfl).trans (ex_sy1)))) (((hF580.1 28 rfl).trans ((hF557.1 28 rfl).trans (ex_na1)))) (((hF580.1 9 rfl).trans ((hF557.1 9 rfl).trans (fx_9)))) (((hF580.1 29 rfl).trans ((hF557.1 29 rfl).trans (fx_29)))) (((hF580.1 52 rfl).trans ((hF557.1 52 rfl).trans (fx_52)))) (by omega) (by omega) (by omega) (by omega) (by omega) (by omega)
        · have _q : True := trivial
          exfalso
          omega
      · have _q : True := trivial
        refine jx_ld (pc' := 92) (l' := L) (st' := [.ref 66]) rfl (jl_aloadn gL_0) ?_
        refine jr_get (pc' := 95) (i := 53) (v := .ref 101) rfl rfl (by decide) rfl rfl ?_
        refine jx_ld (pc' := 96) (l' := L) (st' := [.ref 66, .ref 101]) rfl (jl_aloadn gL_0) ?_
        refine jr_get (pc' := 99) (i := 52) (v := .int (i32 (lk0))) rfl rfl (by decide) (rFv_eq (by decide) (show G551 52 = lk0 from ((hF557.1 52 rfl).trans (fx_52)))) rfl ?_
        refine jx_ld (pc' := 100) (l' := L) (st' := [.ref 66, .int (i32 (lk0)), .ref 101]) rfl (jl_aloadn gL_0) ?_
        refine jx_ar (pc' := 101) (st' := [.int (i32 (0)), .ref 66, .int (i32 (lk0)), .ref 101]) rfl rfl rfl rfl ?_
        refine jx_ar (pc' := 102) (st' := [.int (i32 (5)), .int (i32 (0)), .ref 66, .int (i32 (lk0)), .ref 101]) rfl rfl rfl rfl ?_
        refine jx_vr (pc' := 105) (as := [.int (i32 (0)), .int (i32 (5))]) (st := [.int (i32 (lk0)), .ref 101]) rfl rfl rfl rfl ⟨rfl, rfl, Nat.le_of_ble_eq_true rfl⟩ rfl rfl (c_needNumber (dd := d) (hd := by omega) (hW := hW556) (lo := 0) (hi := 5) (ln := ln) (e_ln := show G551 9 = ln from ((hF557.1 9 rfl).trans (fx_9))) (le := le) (e_le := show A552 4 (ln).toNat = le from (congrFun ((hF557.2 4 rfl).trans (hFx.2 4 rfl)) _).trans (e_le)) (at0 := at2_553) (e_at0 := show G551 10 = at2_553 from (e558)) (fk := fk2_555) (e_fk := show G551 16 = fk2_555 from (e560)) (tk0 := tk2_554) (e_tk0 := show G551 11 = tk2_554 from (e559))  (h_lo := ⟨(by decide), (by decide)⟩) (h_hi := ⟨(by decide), (by decide)⟩)  (p_0 := by omega)) (fun o V' hq => ?_)
        obtain ⟨G602, A603, r604, at2_605, tk2_606, fk2_607, rfl, rfl, hW608, hF609, b610, e611, e612, e613, p614, p615, q616⟩ := hq
        have hF617 := Fr_tr hF564 hF609 (Fr_sub (by decide)) (Fr_sub (by decide))
        have bat2_605 : (0 : Int) ≤ at2_605 ∧ at2_605 ≤ 3002 := e611 ▸ hW608.1 10
        have ztk2_606 := tz_b tk2_606
        have btk2_606 : (0 : Int) ≤ tk2_606 ∧ tk2_606 ≤ 5 := e612 ▸ hW608.1 11
        have bfk2_607 : (0 : Int) ≤ fk2_607 ∧ fk2_607 ≤ 6 := e613 ▸ hW608.1 16
        refine .inr ⟨_, rfl, ?_⟩
        rcases q616 with ⟨a618, a619, a620, a621⟩ | ⟨a622, a623, a624, a625, a626⟩
        · have _q : True := trivial
          refine jr_st (pc' := 106) (i := 34) (m := 13) (z := lk0) (y := r604) rfl (by decide) rfl (by decide) (by omega) (by omega) rfl ?_
          have hW628 : Wk G602 (uA A603 34 (lk0).toNat (r604)) := Wk_a hW608 (show (-2147483648 : Int) ≤ r604 by omega) (show r604 ≤ (2147483647 : Int) by omega)
          have hF629 := Fr_a (z := r604) (k := 34) (n := (lk0).toNat) hF617 (by decide)
          obtain ⟨A627, eA627⟩ : ∃ q, q = uA A603 34 (lk0).toNat (r604) := ⟨_, rfl⟩
          rw [← eA627]
          rw [← eA627] at hW628 hF629
          have q630 : A627 34 (lk0).toNat = r604 := by rw [eA627]; exact uA_eq
          exact at_106p L G602 A627 (s) (at2_605) (tk2_606) (fk2_607) (sy1) (na1) gL_0 gL_1 hW628 hF629 ((e611)) ((e612)) ((e613)) (((hF609.1 19 rfl).trans ((hF557.1 19 rfl).trans (ex_sy1)))) (((hF609.1 28 rfl).trans ((hF557.1 28 rfl).trans (ex_na1)))) (((hF609.1 9 rfl).trans ((hF557.1 9 rfl).trans (fx_9)))) (((hF609.1 29 rfl).trans ((hF557.1 29 rfl).trans (fx_29)))) (((hF609.1 52 rfl).trans ((hF557.1 52 rfl).trans (fx_52)))) (by omega) (by omega) (by omega) (by omega) (by omega) (by omega)
        · have _q : True := trivial
          refine jr_st (pc' := 106) (i := 34) (m := 13) (z := lk0) (y := r604) rfl (by decide) rfl (by decide) (by omega) (by omega) rfl ?_
          have hW632 : Wk G602 (uA A603 34 (lk0).toNat (r604)) := Wk_a hW608 (show (-2147483648 : Int) ≤ r604 by omega) (show r604 ≤ (2147483647 : Int) by omega)
          have hF633 := Fr_a (z := r604) (k := 34) (n := (lk0).toNat) hF617 (by decide)
          obtain ⟨A631, eA631⟩ : ∃ q, q = uA A603 34 (lk0).toNat (r604) := ⟨_, rfl⟩
          rw [← eA631]
          rw [← eA631] at hW632 hF633
          have q634 : A631 34 (lk0).toNat = r604 := by rw [eA631]; exact uA_eq
          exact at_106 L G602 A631 (s) (at2_605) (tk2_606) (fk2_607) (sy1) (na1) gL_0 gL_1 hW632 hF633 ((e611)) ((e612)) ((e613)) (((hF609.1 19 rfl).trans ((hF557.1 19 rfl).trans (ex_sy1)))) (((hF609.1 28 rfl).trans ((hF557.1 28 rfl).trans (ex_na1)))) (((hF609.1 9 rfl).trans ((hF557.1 9 rfl).trans (fx_9)))) (((hF609.1 29 rfl).trans ((hF557.1 29 rfl).trans (fx_29)))) (((hF609.1 52 rfl).trans ((hF557.1 52 rfl).trans (fx_52)))) (by omega) (by omega) (by omega) (by omega) (by omega) (by omega) (by omega) (by omega)
    · have _q : True := trivial
      refine jx_vr (pc' := 91) (as := [.int (i32 (0))]) (st := []) rfl rfl rfl rfl ⟨rfl, rfl, Nat.le_of_ble_eq_true rfl⟩ rfl rfl (c_need (dd := d) (hd := by omega) (hW := hWx) (g := 0) (ln := ln) (e_ln := show Gx 9 = ln from (fx_9)) (le := le) (e_le := show Ax 4 (ln).toNat = le from (congrFun (hFx.2 4 rfl) _).trans (e_le)) (at0 := at1) (e_at0 := show Gx 10 = at1 from (ex_at1)) (fk := fk1) (e_fk := show Gx 16 = fk1 from (ex_fk1)) (tk0 := tk1) (e_tk0 := show Gx 11 = tk1 from (ex_tk1))  (h_g := ⟨(by decide), (by decide)⟩)  (p_0 := by omega)) (fun o V' hq => ?_)
      obtain ⟨G635, A636, at2_637, tk2_638, fk2_639, rfl, rfl, hW640, hF641, e642, e643, e644, p645, p646, q647⟩ := hq
      have hF648 := Fr_tr hFx hF641 (Fr_sub (by decide)) (Fr_sub (by decide))
      have bat2_637 : (0 : Int) ≤ at2_637 ∧ at2_637 ≤ 3002 := e642 ▸ hW640.1 10
      have ztk2_638 := tz_b tk2_638
      have btk2_638 : (0 : Int) ≤ tk2_638 ∧ tk2_638 ≤ 5 := e643 ▸ hW640.1 11
      have bfk2_639 : (0 : Int) ≤ fk2_639 ∧ fk2_639 ≤ 6 := e644 ▸ hW640.1 16
      refine .inl ⟨rfl, ?_⟩
      rcases q647 with ⟨a649, a650, a651, a652⟩ | ⟨a653, a654, a655, a656⟩
      · have _q : True := trivial
        refine jx_ld (pc' := 92) (l' := L) (st' := [.ref 66]) rfl (jl_aloadn gL_0) ?_
        refine jr_get (pc' := 95) (i := 53) (v := .ref 101) rfl rfl (by decide) rfl rfl ?_
        refine jx_ld (pc' := 96) (l' := L) (st' := [.ref 66, .ref 101]) rfl (jl_aloadn gL_0) ?_
        refine jr_get (pc' := 99) (i := 52) (v := .int (i32 (lk0))) rfl rfl (by decide) (rFv_eq (by decide) (show G635 52 = lk0 from ((hF641.1 52 rfl).trans (fx_52)))) rfl ?_
        refine jx_ld (pc' := 100) (l' := L) (st' := [.ref 66, .int (i32 (lk0)), .ref 101]) rfl (jl_aloadn gL_0) ?_
        refine jx_ar (pc' := 101) (st' := [.int (i32 (0)), .ref 66, .int (i32 (lk0)), .ref 101]) rfl rfl rfl rfl ?_
        refine jx_ar (pc' := 102) (st' := [.int (i32 (5)), .int (i32 (0)), .ref 66, .int (i32 (lk0)), .ref 101]) rfl rfl rfl rfl ?_
        refine jx_vr (pc' := 105) (as := [.int (i32 (0)), .int (i32 (5))]) (st := [.int (i32 (lk0)), .ref 101]) rfl rfl rfl rfl ⟨rfl, rfl, Nat.le_of_ble_eq_true rfl⟩ rfl rfl (c_needNumber (dd := d) (hd := by omega) (hW := hW640) (lo := 0) (hi := 5) (ln := ln) (e_ln := show G635 9 = ln from ((hF641.1 9 rfl).trans (fx_9))) (le := le) (e_le := show A636 4 (ln).toNat = le from (congrFun ((hF641.2 4 rfl).trans (hFx.2 4 rfl)) _).trans (e_le)) (at0 := at2_637) (e_at0 := show G635 10 = at2_637 from (e642)) (fk := fk2_639) (e_fk := show G635 16 = fk2_639 from (e644)) (tk0 := tk2_638) (e_tk0 := show G635 11 = tk2_638 from (e643))  (h_lo := ⟨(by decide), (by decide)⟩) (h_hi := ⟨(by decide), (by decide)⟩)  (p_0 := by omega)) (fun o V' hq => ?_)
        obtain ⟨G657, A658, r659, at2_660, tk2_661, fk2_662, rfl, rfl, hW663, hF664, b665, e666, e667, e668, p669, p670, q671⟩ := hq
        have hF672 := Fr_tr hF648 hF664 (Fr_sub (by decide)) (Fr_sub (by decide))
        have bat2_660 : (0 : Int) ≤ at2_660 ∧ at2_660 ≤ 3002 := e666 ▸ hW663.1 10
        have ztk2_661 := tz_b tk2_661
        have btk2_661 : (0 : Int) ≤ tk2_661 ∧ tk2_661 ≤ 5 := e667 ▸ hW663.1 11
        have bfk2_662 : (0 : Int) ≤ fk2_662 ∧ fk2_662 ≤ 6 := e668 ▸ hW663.1 16
        refine .inr ⟨_, rfl, ?_⟩
        rcases q671 with ⟨a673, a674, a675, a676⟩ | ⟨a677, a678, a679, a680, a681⟩
        · have _q : True := trivial
          refine jr_st (pc' := 106) (i := 34) (m := 13) (z := lk0) (y := r659) rfl (by decide) rfl (by decide) (by omega) (by omega) rfl ?_
          have hW683 : Wk G657 (uA A658 34 (lk0).toNat (r659)) := Wk_a hW663 (show (-2147483648 : Int) ≤ r659 by omega) (show r659 ≤ (2147483647 : Int) by omega)
          have hF684 := Fr_a (z := r659) (k := 34) (n := (lk0).toNat) hF672 (by decide)
          obtain ⟨A682, eA682⟩ : ∃ q, q = uA A658 34 (lk0).toNat (r659) := ⟨_, rfl⟩
          rw [← eA682]
          rw [← eA682] at hW683 hF684
          have q685 : A682 34 (lk0).toNat = r659 := by rw [eA682]; exact uA_eq
          exact at_106p L G657 A682 (s) (at2_660) (tk2_661) (fk2_662) (sy1) (na1) gL_0 gL_1 hW683 hF684 ((e666)) ((e667)) ((e668)) (((hF664.1 19 rfl).trans ((hF641.1 19 rfl).trans (ex_sy1)))) (((hF664.1 28 rfl).trans ((hF641.1 28 rfl).trans (ex_na1)))) (((hF664.1 9 rfl).trans ((hF641.1 9 rfl).trans (fx_9)))) (((hF664.1 29 rfl).trans ((hF641.1 29 rfl).trans (fx_29)))) (((hF664.1 52 rfl).trans ((hF641.1 52 rfl).trans (fx_52)))) (by omega) (by omega) (by omega) (by omega) (by omega) (by omega)
        · have _q : True := trivial
          exfalso
          omega
      · have _q : True := trivial
        exfalso
        omega
  have at_81p : ∀ (L : jL) (Gx : Nat → Int) (Ax : Nat → Nat → Int) (s at1 tk1 fk1 sy1 na1 : Int), jGet L 0 = some (.ref 66) → jGet L 1 = some (.int (i32 s)) → Wk Gx Ax → Fr [9, 10, 11, 12, 13, 14, 16, 17, 18, 19, 28, 29, 52] [6, 7, 8, 9, 10, 11, 12, 14, 34, 35] G A Gx Ax → Gx 10 = at1 → Gx 11 = tk1 → Gx 16 = fk1 → Gx 19 = sy1 → Gx 28 = na1 → Gx 9 = ln → Gx 29 = vi → Gx 52 = lk0 → ((-2147483648 : Int) ≤ s ∧ s ≤ 2147483647) → (1 ≤ fk1) → (at0 ≤ at1) → (at1 ≤ le) → (sy ≤ sy1) → (sy1 ≤ na1 + 2) → wj X d jm310 (81, L, [], rV c0 c1 Gx Ax T) (fun o V' => ∃ (G' : Nat → Int) (A' : Nat → Nat → Int) (ln2 : Int) (at2 : Int) (fk2 : Int) (sy2 : Int) (na2 : Int) (vi2 : Int), V' = rV c0 c1 G' A' T ∧ o = .inl none ∧ Wk G' A' ∧ Fr [9, 10, 11, 12, 13, 14, 16, 17, 18, 19, 28, 29, 52] [6, 7, 8, 9, 10, 11, 12, 14, 34, 35] G A G' A' ∧ G' 9 = ln2 ∧ G' 10 = at2 ∧ G' 16 = fk2 ∧ G' 19 = sy2 ∧ G' 28 = na2 ∧ G' 29 = vi2 ∧ (at0 ≤ at2) ∧ (at2 ≤ le) ∧ (sy ≤ sy2) ∧ (sy2 ≤ na2 + 2) ∧ (vi2 ≤ sy2) ∧ (ln ≤ ln2) ∧ (ln2 ≤ li) ∧ (((1 ≤ fk2)) ∨ ((fk2 = 0) ∧ (ln2 = ln + 1)))) := by
    intro L Gx Ax s at1 tk1 fk1 sy1 na1 gL_0 gL_1 hWx hFx ex_at1 ex_tk1 ex_fk1 ex_sy1 ex_na1 fx_9 fx_29 fx_52 rx_s iv_0 iv_1 iv_2 iv_3 iv_4
    have b_at1 : (0 : Int) ≤ at1 ∧ at1 ≤ 3002 := ex_at1 ▸ hWx.1 10
    have b_tk1 : (0 : Int) ≤ tk1 ∧ tk1 ≤ 5 := ex_tk1 ▸ hWx.1 11
    have b_fk1 : (0 : Int) ≤ fk1 ∧ fk1 ≤ 6 := ex_fk1 ▸ hWx.1 16
    have b_sy1 : (0 : Int) ≤ sy1 ∧ sy1 ≤ 202 := ex_sy1 ▸ hWx.1 19
    have b_na1 : (0 : Int) ≤ na1 ∧ na1 ≤ 200 := ex_na1 ▸ hWx.1 28
    refine jx_ld (pc' := 82) (l' := L) (st' := [.ref 66]) rfl (jl_aloadn gL_0) ?_
    refine jx_ld (pc' := 83) (l' := L) (st' := [.ref 66, .ref 66]) rfl (jl_aloadn gL_0) ?_
    refine jx_ar (pc' := 85) (st' := [.int (i32 (22)), .ref 66, .ref 66]) rfl rfl rfl rfl ?_
    have b686 : (-2147483648 : Int) ≤ Gx 13 ∧ Gx 13 ≤ 2147483647 := hWx.1 13
    refine jx_vr (pc' := 88) (as := [.int (i32 (22))]) (st := [.ref 66]) rfl rfl rfl rfl ⟨rfl, rfl, Nat.le_of_ble_eq_true rfl⟩ rfl rfl (c_isKey (dd := d) (hd := by omega) (hW := hWx) (k := 22) (tk := tk1) (e_tk := show Gx 11 = tk1 from (ex_tk1)) (tn := Gx 13) (e_tn := show Gx 13 = Gx 13 from rfl)  (h_k := ⟨(by decide), (by decide)⟩)  ) (fun o V' hq => ?_)
    obtain ⟨r687, rfl, rfl, b688, q689⟩ := hq
    refine .inr ⟨_, rfl, ?_⟩
    rcases q689 with ⟨rfl, a690, a691, a692⟩ | rfl
    · have _q : True := trivial
      refine jx_vr (pc' := 91) (as := [.int (i32 (1))]) (st := []) rfl rfl rfl rfl ⟨rfl, rfl, Nat.le_of_ble_eq_true rfl⟩ rfl rfl (c_need (dd := d) (hd := by omega) (hW := hWx) (g := 1) (ln := ln) (e_ln := show Gx 9 = ln from (fx_9)) (le := le) (e_le := show Ax 4 (ln).toNat = le from (congrFun (hFx.2 4 rfl) _).trans (e_le)) (at0 := at1) (e_at0 := show Gx 10 = at1 from (ex_at1)) (fk := fk1) (e_fk := show Gx 16 = fk1 from (ex_fk1)) (tk0 := tk1) (e_tk0 := show Gx 11 = tk1 from (ex_tk1))  (h_g := ⟨(by decide), (by decide)⟩)  (p_0 := by omega)) (fun o V' hq => ?_)
      obtain ⟨G693, A694, at2_695, tk2_696, fk2_697, rfl, rfl, hW698, hF699, e700, e701, e702, p703, p704, q705⟩ := hq
      have hF706 := Fr_tr hFx hF699 (Fr_sub (by decide)) (Fr_sub (by decide))
      have bat2_695 : (0 : Int) ≤ at2_695 ∧ at2_695 ≤ 3002 := e700 ▸ hW698.1 10
      have ztk2_696 := tz_b tk2_696
      have btk2_696 : (0 : Int) ≤ tk2_696 ∧ tk2_696 ≤ 5 := e701 ▸ hW698.1 11
      have bfk2_697 : (0 : Int) ≤ fk2_697 ∧ fk2_697 ≤ 6 := e702 ▸ hW698.1 16
      refine .inl ⟨rfl, ?_⟩
      rcases q705 with ⟨a707, a708, a709, a710⟩ | ⟨a711, a712, a713, a714⟩
      · have _q : True := trivial
        refine jx_ld (pc' := 92) (l' := L) (st' := [.ref 66]) rfl (jl_aloadn gL_0) ?_
        refine jr_get (pc' := 95) (i := 53) (v := .ref 101) rfl rfl (by decide) rfl rfl ?_
        refine jx_ld (pc' := 96) (l' := L) (st' := [.ref 66, .ref 101]) rfl (jl_aloadn gL_0) ?_
        refine jr_get (pc' := 99) (i := 52) (v := .int (i32 (lk0))) rfl rfl (by decide) (rFv_eq (by decide) (show G693 52 = lk0 from ((hF699.1 52 rfl).trans (fx_52)))) rfl ?_
        refine jx_ld (pc' := 100) (l' := L) (st' := [.ref 66, .int (i32 (lk0)), .ref 101]) rfl (jl_aloadn gL_0) ?_
        refine jx_ar (pc' := 101) (st' := [.int (i32 (0)), .ref 66, .int (i32 (lk0)), .ref 101]) rfl rfl rfl rfl ?_
        refine jx_ar (pc' := 102) (st' := [.int (i32 (5)), .int (i32 (0)), .ref 66, .int (i32 (lk0)), .ref 101]) rfl rfl rfl rfl ?_
        refine jx_vr (pc' := 105) (as := [.int (i32 (0)), .int (i32 (5))]) (st := [.int (i32 (lk0)), .ref 101]) rfl rfl rfl rfl ⟨rfl, rfl, Nat.le_of_ble_eq_true rfl⟩ rfl rfl (c_needNumber (dd := d) (hd := by omega) (hW := hW698) (lo := 0) (hi := 5) (ln := ln) (e_ln := show G693 9 = ln from ((hF699.1 9 rfl).trans (fx_9))) (le := le) (e_le := show A694 4 (ln).toNat = le from (congrFun ((hF699.2 4 rfl).trans (hFx.2 4 rfl)) _).trans (e_le)) (at0 := at2_695) (e_at0 := show G693 10 = at2_695 from (e700)) (fk := fk2_697) (e_fk := show G693 16 = fk2_697 from (e702)) (tk0 := tk2_696) (e_tk0 := show G693 11 = tk2_696 from (e701))  (h_lo := ⟨(by decide), (by decide)⟩) (h_hi := ⟨(by decide), (by decide)⟩)  (p_0 := by omega)) (fun o V' hq => ?_)
        obtain ⟨G715, A716, r717, at2_718, tk2_719, fk2_720, rfl, rfl, hW721, hF722, b723, e724, e725, e726, p727, p728, q729⟩ := hq
        have hF730 := Fr_tr hF706 hF722 (Fr_sub (by decide)) (Fr_sub (by decide))
        have bat2_718 : (0 : Int) ≤ at2_718 ∧ at2_718 ≤ 3002 := e724 ▸ hW721.1 10
        have ztk2_719 := tz_b tk2_719
        have btk2_719 : (0 : Int) ≤ tk2_719 ∧ tk2_719 ≤ 5 := e725 ▸ hW721.1 11
        have bfk2_720 : (0 : Int) ≤ fk2_720 ∧ fk2_720 ≤ 6 := e726 ▸ hW721.1 16
        refine .inr ⟨_, rfl, ?_⟩
        rcases q729 with ⟨a731, a732, a733, a734⟩ | ⟨a735, a736, a737, a738, a739⟩
        · have _q : True := trivial
          refine jr_st (pc' := 106) (i := 34) (m := 13) (z := lk0) (y := r717) rfl (by decide) rfl (by decide) (by omega) (by omega) rfl ?_
          have hW741 : Wk G715 (uA A716 34 (lk0).toNat (r717)) := Wk_a hW721 (show (-2147483648 : Int) ≤ r717 by omega) (show r717 ≤ (2147483647 : Int) by omega)
          have hF742 := Fr_a (z := r717) (k := 34) (n := (lk0).toNat) hF730 (by decide)
          obtain ⟨A740, eA740⟩ : ∃ q, q = uA A716 34 (lk0).toNat (r717) := ⟨_, rfl⟩
          rw [← eA740]
          rw [← eA740] at hW741 hF742
          have q743 : A740 34 (lk0).toNat = r717 := by rw [eA740]; exact uA_eq
          exact at_106p L G715 A740 (s) (at2_718) (tk2_719) (fk2_720) (sy1) (na1) gL_0 gL_1 hW741 hF742 ((e724)) ((e725)) ((e726)) (((hF722.1 19 rfl).trans ((hF699.1 19 rfl).trans (ex_sy1)))) (((hF722.1 28 rfl).trans ((hF699.1 28 rfl).trans (ex_na1)))) (((hF722.1 9 rfl).trans ((hF699.1 9 rfl).trans (fx_9)))) (((hF722.1 29 rfl).trans ((hF699.1 29 rfl).trans (fx_29)))) (((hF722.1 52 rfl).trans ((hF699.1 52 rfl).trans (fx_52)))) (by omega) (by omega) (by omega) (by omega) (by omega) (by omega)
        · have _q : True := trivial
          exfalso
          omega
      · have _q : True := trivial
        exfalso
        omega
    · have _q : True := trivial
      refine jx_vr (pc' := 91) (as := [.int (i32 (0))]) (st := []) rfl rfl rfl rfl ⟨rfl, rfl, Nat.le_of_ble_eq_true rfl⟩ rfl rfl (c_need (dd := d) (hd := by omega) (hW := hWx) (g := 0) (ln := ln) (e_ln := show Gx 9 = ln from (fx_9)) (le := le) (e_le := show Ax 4 (ln).toNat = le from (congrFun (hFx.2 4 rfl) _).trans (e_le)) (at0 := at1) (e_at0 := show Gx 10 = at1 from (ex_at1)) (fk := fk1) (e_fk := show Gx 16 = fk1 from (ex_fk1)) (tk0 := tk1) (e_tk0 := show Gx 11 = tk1 from (ex_tk1))  (h_g := ⟨(by decide), (by decide)⟩)  (p_0 := by omega)) (fun o V' hq => ?_)
      obtain ⟨G744, A745, at2_746, tk2_747, fk2_748, rfl, rfl, hW749, hF750, e751, e752, e753, p754, p755, q756⟩ := hq
      have hF757 := Fr_tr hFx hF750 (Fr_sub (by decide)) (Fr_sub (by decide))
      have bat2_746 : (0 : Int) ≤ at2_746 ∧ at2_746 ≤ 3002 := e751 ▸ hW749.1 10
      have ztk2_747 := tz_b tk2_747
      have btk2_747 : (0 : Int) ≤ tk2_747 ∧ tk2_747 ≤ 5 := e752 ▸ hW749.1 11
      have bfk2_748 : (0 : Int) ≤ fk2_748 ∧ fk2_748 ≤ 6 := e753 ▸ hW749.1 16
      refine .inl ⟨rfl, ?_⟩
      rcases q756 with ⟨a758, a759, a760, a761⟩ | ⟨a762, a763, a764, a765⟩
      · have _q : True := trivial
        refine jx_ld (pc' := 92) (l' := L) (st' := [.ref 66]) rfl (jl_aloadn gL_0) ?_
        refine jr_get (pc' := 95) (i := 53) (v := .ref 101) rfl rfl (by decide) rfl rfl ?_
        refine jx_ld (pc' := 96) (l' := L) (st' := [.ref 66, .ref 101]) rfl (jl_aloadn gL_0) ?_
        refine jr_get (pc' := 99) (i := 52) (v := .int (i32 (lk0))) rfl rfl (by decide) (rFv_eq (by decide) (show G744 52 = lk0 from ((hF750.1 52 rfl).trans (fx_52)))) rfl ?_
        refine jx_ld (pc' := 100) (l' := L) (st' := [.ref 66, .int (i32 (lk0)), .ref 101]) rfl (jl_aloadn gL_0) ?_
        refine jx_ar (pc' := 101) (st' := [.int (i32 (0)), .ref 66, .int (i32 (lk0)), .ref 101]) rfl rfl rfl rfl ?_
        refine jx_ar (pc' := 102) (st' := [.int (i32 (5)), .int (i32 (0)), .ref 66, .int (i32 (lk0)), .ref 101]) rfl rfl rfl rfl ?_
        refine jx_vr (pc' := 105) (as := [.int (i32 (0)), .int (i32 (5))]) (st := [.int (i32 (lk0)), .ref 101]) rfl rfl rfl rfl ⟨rfl, rfl, Nat.le_of_ble_eq_true rfl⟩ rfl rfl (c_needNumber (dd := d) (hd := by omega) (hW := hW749) (lo := 0) (hi := 5) (ln := ln) (e_ln := show G744 9 = ln from ((hF750.1 9 rfl).trans (fx_9))) (le := le) (e_le := show A745 4 (ln).toNat = le from (congrFun ((hF750.2 4 rfl).trans (hFx.2 4 rfl)) _).trans (e_le)) (at0 := at2_746) (e_at0 := show G744 10 = at2_746 from (e751)) (fk := fk2_748) (e_fk := show G744 16 = fk2_748 from (e753)) (tk0 := tk2_747) (e_tk0 := show G744 11 = tk2_747 from (e752))  (h_lo := ⟨(by decide), (by decide)⟩) (h_hi := ⟨(by decide), (by decide)⟩)  (p_0 := by omega)) (fun o V' hq => ?_)
        obtain ⟨G766, A767, r768, at2_769, tk2_770, fk2_771, rfl, rfl, hW772, hF773, b774, e775, e776, e777, p778, p779, q780⟩ := hq
        have hF781 := Fr_tr hF757 hF773 (Fr_sub (by decide)) (Fr_sub (by decide))
        have bat2_769 : (0 : Int) ≤ at2_769 ∧ at2_769 ≤ 3002 := e775 ▸ hW772.1 10
        have ztk2_770 := tz_b tk2_770
        have btk2_770 : (0 : Int) ≤ tk2_770 ∧ tk2_770 ≤ 5 := e776 ▸ hW772.1 11
        have bfk2_771 : (0 : Int) ≤ fk2_771 ∧ fk2_771 ≤ 6 := e777 ▸ hW772.1 16
        refine .inr ⟨_, rfl, ?_⟩
        rcases q780 with ⟨a782, a783, a784, a785⟩ | ⟨a786, a787, a788, a789, a790⟩
        · have _q : True := trivial
          refine jr_st (pc' := 106) (i := 34) (m := 13) (z := lk0) (y := r768) rfl (by decide) rfl (by decide) (by omega) (by omega) rfl ?_
          have hW792 : Wk G766 (uA A767 34 (lk0).toNat (r768)) := Wk_a hW772 (show (-2147483648 : Int) ≤ r768 by omega) (show r768 ≤ (2147483647 : Int) by omega)
          have hF793 := Fr_a (z := r768) (k := 34) (n := (lk0).toNat) hF781 (by decide)
          obtain ⟨A791, eA791⟩ : ∃ q, q = uA A767 34 (lk0).toNat (r768) := ⟨_, rfl⟩
          rw [← eA791]
          rw [← eA791] at hW792 hF793
          have q794 : A791 34 (lk0).toNat = r768 := by rw [eA791]; exact uA_eq
          exact at_106p L G766 A791 (s) (at2_769) (tk2_770) (fk2_771) (sy1) (na1) gL_0 gL_1 hW792 hF793 ((e775)) ((e776)) ((e777)) (((hF773.1 19 rfl).trans ((hF750.1 19 rfl).trans (ex_sy1)))) (((hF773.1 28 rfl).trans ((hF750.1 28 rfl).trans (ex_na1)))) (((hF773.1 9 rfl).trans ((hF750.1 9 rfl).trans (fx_9)))) (((hF773.1 29 rfl).trans ((hF750.1 29 rfl).trans (fx_29)))) (((hF773.1 52 rfl).trans ((hF750.1 52 rfl).trans (fx_52)))) (by omega) (by omega) (by omega) (by omega) (by omega) (by omega)
        · have _q : True := trivial
          exfalso
          omega
      · have _q : True := trivial
        exfalso
        omega
  refine jx_ld (pc' := 1) (l' := [(0, .ref 66)]) (st' := [.ref 66]) rfl (jl_aloadn rfl) ?_
  refine jx_vr (pc' := 4) (as := []) (st := []) rfl rfl rfl rfl ⟨rfl, rfl, Nat.le_of_ble_eq_true rfl⟩ rfl rfl (c_next (dd := d) (hd := by omega) (hW := hW)  (ln := ln) (e_ln := show G 9 = ln from (e_ln)) (le := le) (e_le := show A 4 (ln).toNat = le from (e_le)) (at0 := at0) (e_at0 := show G 10 = at0 from (e_at0))    (p_0 := by omega)) (fun o V' hq => ?_)
  obtain ⟨G795, A796, at2_797, tk2_798, rfl, rfl, hW799, hF800, e801, e802, p803, p804, p805, -⟩ := hq
  have hF807 := Fr_tr hF0 hF800 (Fr_sub (by decide)) (Fr_sub (by decide))
  have bat2_797 : (0 : Int) ≤ at2_797 ∧ at2_797 ≤ 3002 := e801 ▸ hW799.1 10
  have ztk2_798 := tz_b tk2_798
  have btk2_798 : (0 : Int) ≤ tk2_798 ∧ tk2_798 ≤ 5 := e802 ▸ hW799.1 11
  refine .inl ⟨rfl, ?_⟩
  refine jx_ld (pc' := 5) (l' := [(0, .ref 66)]) (st' := [.ref 66]) rfl (jl_aloadn rfl) ?_
  refine jr_get (pc' := 8) (i := 11) (v := .int (i32 (tk2_798))) rfl rfl (by decide) (rFv_eq (by decide) (show G795 11 = tk2_798 from (e802))) rfl ?_
  refine jx_ar (pc' := 9) (st' := [.int (i32 (1)), .int (i32 (tk2_798))]) rfl rfl rfl rfl ?_
  refine jx_icmp_eq (pc' := 12) (tg := 22) rfl rfl rfl (Int.le_trans (by decide : (-2147483648 : Int) ≤ 0) btk2_798.1) (Int.le_trans btk2_798.2 (by decide : (5 : Int) ≤ 2147483647)) (by decide) (by decide) (fun h808 => ?_) (fun h808 => ?_)
  · have _q := h808
    refine jx_ld (pc' := 23) (l' := [(0, .ref 66)]) (st' := [.ref 66]) rfl (jl_aloadn rfl) ?_
    refine jx_ld (pc' := 24) (l' := [(0, .ref 66)]) (st' := [.ref 66, .ref 66]) rfl (jl_aloadn rfl) ?_
    refine jr_get (pc' := 27) (i := 14) (v := .long (i64 (G795 14))) rfl rfl (by decide) rfl rfl ?_
    obtain ⟨y809, ey809⟩ : ∃ q : Int64, q = i64 (G795 14) := ⟨_, rfl⟩
    rw [← ey809]
    refine jx_vr (pc' := 30) (as := [.long (y809)]) (st := []) rfl rfl rfl rfl ⟨rfl, rfl, Nat.le_of_ble_eq_true rfl⟩ rfl rfl (c_isTaken (dd := d) (hd := by omega) (hW := hW799) (nm := y809) (sy := sy) (e_sy := show G795 19 = sy from ((hF800.1 19 rfl).trans (e_sy)))    ) (fun o V' hq => ?_)
    obtain ⟨r810, rfl, rfl, b811, -⟩ := hq
    refine .inr ⟨_, rfl, ?_⟩
    refine jx_if_eq (pc' := 33) (tg := 42) rfl rfl rfl (Int.le_trans (by decide : (-2147483648 : Int) ≤ 0) b811.1) (Int.le_trans b811.2 (by decide : (1 : Int) ≤ 2147483647)) (fun h813 => ?_) (fun h813 => ?_)
    · have _q := h813
      refine jx_ld (pc' := 43) (l' := [(0, .ref 66)]) (st' := [.ref 66]) rfl (jl_aloadn rfl) ?_
      refine jx_vr (pc' := 46) (as := []) (st := []) rfl rfl rfl rfl ⟨rfl, rfl, Nat.le_of_ble_eq_true rfl⟩ rfl rfl (c_bad (dd := d) (hd := by omega) (hW := hW799)  (fk := fk) (e_fk := show G795 16 = fk from ((hF800.1 16 rfl).trans (e_fk)))    ) (fun o V' hq => ?_)
      obtain ⟨r814, rfl, rfl, b815, q816⟩ := hq
      refine .inr ⟨_, rfl, ?_⟩
      rcases q816 with ⟨rfl, a817⟩ | ⟨rfl, a818⟩
      · have _q : True := trivial
        exfalso
        omega
      · have _q : True := trivial
        refine jx_if_ne (pc' := 49) (tg := 68) rfl rfl rfl (by decide) (by decide) (fun h819 => ?_) (fun h819 => ?_)
        · have _q := h819
          exact absurd h819 (by omega)
        · have _q := h819
          refine jx_ld (pc' := 50) (l' := [(0, .ref 66)]) (st' := [.ref 66]) rfl (jl_aloadn rfl) ?_
          refine jr_get (pc' := 53) (i := 52) (v := .int (i32 (lk0))) rfl rfl (by decide) (rFv_eq (by decide) (show G795 52 = lk0 from ((hF800.1 52 rfl).trans (e_lk0)))) rfl ?_
          refine jx_ar (pc' := 55) (st' := [.int (i32 (12)), .int (i32 (lk0))]) rfl rfl rfl rfl ?_
          refine jx_icmp_ne (pc' := 58) (tg := 68) rfl rfl rfl (Int.le_trans (by decide : (-2147483648 : Int) ≤ 0) b_lk0.1) (Int.le_trans b_lk0.2 (by decide : (12 : Int) ≤ 2147483647)) (by decide) (by decide) (fun h820 => ?_) (fun h820 => ?_)
          · have _q := h820
            refine jx_ld (pc' := 69) (l' := [(0, .ref 66)]) (st' := [.ref 66]) rfl (jl_aloadn rfl) ?_
            refine jx_ar (pc' := 71) (st' := [.int (i32 (11)), .ref 66]) rfl rfl rfl rfl ?_
            refine jx_ar (pc' := 72) (st' := [.int (i32 (0)), .int (i32 (11)), .ref 66]) rfl rfl rfl rfl ?_
            refine jx_vr (pc' := 75) (as := [.int (i32 (11)), .int (i32 (0))]) (st := []) rfl rfl rfl rfl ⟨rfl, rfl, Nat.le_of_ble_eq_true rfl⟩ rfl rfl (c_newName (dd := d) (hd := by omega) (hW := hW799) (kind := 11) (many := 0) (sy := sy) (e_sy := show G795 19 = sy from ((hF800.1 19 rfl).trans (e_sy))) (na := na) (e_na := show G795 28 = na from ((hF800.1 28 rfl).trans (e_na))) (fk := fk) (e_fk := show G795 16 = fk from ((hF800.1 16 rfl).trans (e_fk)))  (h_kind := ⟨(by decide), (by decide)⟩) (h_many := ⟨(by decide), (by decide)⟩)  (p_0 := by omega) (p_1 := by omega)) (fun o V' hq => ?_)
            obtain ⟨G821, A822, r823, sy2_824, na2_825, fk2_826, rfl, rfl, hW827, hF828, b829, e830, e831, e832, q833⟩ := hq
            have hF834 := Fr_tr hF807 hF828 (Fr_sub (by decide)) (Fr_sub (by decide))
            have bsy2_824 : (0 : Int) ≤ sy2_824 ∧ sy2_824 ≤ 202 := e830 ▸ hW827.1 19
            have bna2_825 : (0 : Int) ≤ na2_825 ∧ na2_825 ≤ 200 := e831 ▸ hW827.1 28
            have bfk2_826 : (0 : Int) ≤ fk2_826 ∧ fk2_826 ≤ 6 := e832 ▸ hW827.1 16
            refine .inr ⟨_, rfl, ?_⟩
            rcases q833 with ⟨a835, a836, a837, a838, a839⟩ | ⟨a840, a841, a842, a843⟩
            · have _q : True := trivial
              refine jx_ld (pc' := 76) (l' := jSto1 [(0, .ref 66)] 1 (.int (i32 (r823)))) (st' := []) rfl rfl ?_
              obtain ⟨L844, eL844⟩ : ∃ q, q = jSto1 [(0, .ref 66)] 1 (.int (i32 (r823))) := ⟨_, rfl⟩
              rw [← eL844]
              have gL844_0 : jGet L844 0 = some (.ref 66) := eL844 ▸ jg_ne (by decide) (rfl : jGet [(0, .ref 66)] 0 = some (.ref 66)) rfl
              have gL844_1 : jGet L844 1 = some (.int (i32 (r823))) := eL844 ▸ jg_eq
              refine jx_ld (pc' := 77) (l' := L844) (st' := [.ref 66]) rfl (jl_aloadn gL844_0) ?_
              refine jx_ar (pc' := 78) (st' := [.int (i32 (1)), .ref 66]) rfl rfl rfl rfl ?_
              refine jx_vr (pc' := 81) (as := [.int (i32 (1))]) (st := []) rfl rfl rfl rfl ⟨rfl, rfl, Nat.le_of_ble_eq_true rfl⟩ rfl rfl (c_need (dd := d) (hd := by omega) (hW := hW827) (g := 1) (ln := ln) (e_ln := show G821 9 = ln from ((hF828.1 9 rfl).trans ((hF800.1 9 rfl).trans (e_ln)))) (le := le) (e_le := show A822 4 (ln).toNat = le from (congrFun ((hF828.2 4 rfl).trans (hF800.2 4 rfl)) _).trans (e_le)) (at0 := at2_797) (e_at0 := show G821 10 = at2_797 from ((hF828.1 10 rfl).trans (e801))) (fk := fk2_826) (e_fk := show G821 16 = fk2_826 from (e832)) (tk0 := tk2_798) (e_tk0 := show G821 11 = tk2_798 from ((hF828.1 11 rfl).trans (e802)))  (h_g := ⟨(by decide), (by decide)⟩)  (p_0 := by omega)) (fun o V' hq => ?_)
              obtain ⟨G845, A846, at2_847, tk2_848, fk2_849, rfl, rfl, hW850, hF851, e852, e853, e854, p855, p856, q857⟩ := hq
              have hF858 := Fr_tr hF834 hF851 (Fr_sub (by decide)) (Fr_sub (by decide))
              have bat2_847 : (0 : Int) ≤ at2_847 ∧ at2_847 ≤ 3002 := e852 ▸ hW850.1 10
              have ztk2_848 := tz_b tk2_848
              have btk2_848 : (0 : Int) ≤ tk2_848 ∧ tk2_848 ≤ 5 := e853 ▸ hW850.1 11
              have bfk2_849 : (0 : Int) ≤ fk2_849 ∧ fk2_849 ≤ 6 := e854 ▸ hW850.1 16
              refine .inl ⟨rfl, ?_⟩
              rcases q857 with ⟨a859, a860, a861, a862⟩ | ⟨a863, a864, a865, a866⟩
              · have _q : True := trivial
                exact at_81p L844 G845 A846 (r823) (at2_847) (tk2_848) (fk2_849) (sy2_824) (na2_825) gL844_0 gL844_1 hW850 hF858 ((e852)) ((e853)) ((e854)) (((hF851.1 19 rfl).trans (e830))) (((hF851.1 28 rfl).trans (e831))) (((hF851.1 9 rfl).trans ((hF828.1 9 rfl).trans ((hF800.1 9 rfl).trans (e_ln))))) (((hF851.1 29 rfl).trans ((hF828.1 29 rfl).trans ((hF800.1 29 rfl).trans (e_vi))))) (((hF851.1 52 rfl).trans ((hF828.1 52 rfl).trans ((hF800.1 52 rfl).trans (e_lk0))))) (by omega) (by omega) (by omega) (by omega) (by omega) (by omega)
              · have _q : True := trivial
                exact at_81 L844 G845 A846 (r823) (at2_847) (tk2_848) (fk2_849) (sy2_824) (na2_825) gL844_0 gL844_1 hW850 hF858 ((e852)) ((e853)) ((e854)) (((hF851.1 19 rfl).trans (e830))) (((hF851.1 28 rfl).trans (e831))) (((hF851.1 9 rfl).trans ((hF828.1 9 rfl).trans ((hF800.1 9 rfl).trans (e_ln))))) (((hF851.1 29 rfl).trans ((hF828.1 29 rfl).trans ((hF800.1 29 rfl).trans (e_vi))))) (((hF851.1 52 rfl).trans ((hF828.1 52 rfl).trans ((hF800.1 52 rfl).trans (e_lk0))))) (by omega) (by omega) (by omega) (by omega) (by omega) (by omega) (by omega) (by omega)
            · have _q : True := trivial
              refine jx_ld (pc' := 76) (l' := jSto1 [(0, .ref 66)] 1 (.int (i32 (r823)))) (st' := []) rfl rfl ?_
              obtain ⟨L867, eL867⟩ : ∃ q, q = jSto1 [(0, .ref 66)] 1 (.int (i32 (r823))) := ⟨_, rfl⟩
              rw [← eL867]
              have gL867_0 : jGet L867 0 = some (.ref 66) := eL867 ▸ jg_ne (by decide) (rfl : jGet [(0, .ref 66)] 0 = some (.ref 66)) rfl
              have gL867_1 : jGet L867 1 = some (.int (i32 (r823))) := eL867 ▸ jg_eq
              refine jx_ld (pc' := 77) (l' := L867) (st' := [.ref 66]) rfl (jl_aloadn gL867_0) ?_
              refine jx_ar (pc' := 78) (st' := [.int (i32 (1)), .ref 66]) rfl rfl rfl rfl ?_
              refine jx_vr (pc' := 81) (as := [.int (i32 (1))]) (st := []) rfl rfl rfl rfl ⟨rfl, rfl, Nat.le_of_ble_eq_true rfl⟩ rfl rfl (c_need (dd := d) (hd := by omega) (hW := hW827) (g := 1) (ln := ln) (e_ln := show G821 9 = ln from ((hF828.1 9 rfl).trans ((hF800.1 9 rfl).trans (e_ln)))) (le := le) (e_le := show A822 4 (ln).toNat = le from (congrFun ((hF828.2 4 rfl).trans (hF800.2 4 rfl)) _).trans (e_le)) (at0 := at2_797) (e_at0 := show G821 10 = at2_797 from ((hF828.1 10 rfl).trans (e801))) (fk := fk2_826) (e_fk := show G821 16 = fk2_826 from (e832)) (tk0 := tk2_798) (e_tk0 := show G821 11 = tk2_798 from ((hF828.1 11 rfl).trans (e802)))  (h_g := ⟨(by decide), (by decide)⟩)  (p_0 := by omega)) (fun o V' hq => ?_)
              obtain ⟨G868, A869, at2_870, tk2_871, fk2_872, rfl, rfl, hW873, hF874, e875, e876, e877, p878, p879, q880⟩ := hq
              have hF881 := Fr_tr hF834 hF874 (Fr_sub (by decide)) (Fr_sub (by decide))
              have bat2_870 : (0 : Int) ≤ at2_870 ∧ at2_870 ≤ 3002 := e875 ▸ hW873.1 10
              have ztk2_871 := tz_b tk2_871
              have btk2_871 : (0 : Int) ≤ tk2_871 ∧ tk2_871 ≤ 5 := e876 ▸ hW873.1 11
              have bfk2_872 : (0 : Int) ≤ fk2_872 ∧ fk2_872 ≤ 6 := e877 ▸ hW873.1 16
              refine .inl ⟨rfl, ?_⟩
              rcases q880 with ⟨a882, a883, a884, a885⟩ | ⟨a886, a887, a888, a889⟩
              · have _q : True := trivial
                exact at_81p L867 G868 A869 (r823) (at2_870) (tk2_871) (fk2_872) (sy2_824) (na2_825) gL867_0 gL867_1 hW873 hF881 ((e875)) ((e876)) ((e877)) (((hF874.1 19 rfl).trans (e830))) (((hF874.1 28 rfl).trans (e831))) (((hF874.1 9 rfl).trans ((hF828.1 9 rfl).trans ((hF800.1 9 rfl).trans (e_ln))))) (((hF874.1 29 rfl).trans ((hF828.1 29 rfl).trans ((hF800.1 29 rfl).trans (e_vi))))) (((hF874.1 52 rfl).trans ((hF828.1 52 rfl).trans ((hF800.1 52 rfl).trans (e_lk0))))) (by omega) (by omega) (by omega) (by omega) (by omega) (by omega)
              · have _q : True := trivial
                exfalso
                omega
          · have _q := h820
            refine jx_ld (pc' := 59) (l' := [(0, .ref 66)]) (st' := [.ref 66]) rfl (jl_aloadn rfl) ?_
            refine jx_ar (pc' := 61) (st' := [.int (i32 (6)), .ref 66]) rfl rfl rfl rfl ?_
            refine jx_ld (pc' := 62) (l' := [(0, .ref 66)]) (st' := [.ref 66, .int (i32 (6)), .ref 66]) rfl (jl_aloadn rfl) ?_
            have b890 : (-3000 : Int) ≤ G795 12 ∧ G795 12 ≤ 3002 := hW799.1 12
            refine jr_get (pc' := 65) (i := 12) (v := .int (i32 (G795 12))) rfl rfl (by decide) rfl rfl ?_
            refine jx_vr (pc' := 68) (as := [.int (i32 (6)), .int (i32 (G795 12))]) (st := []) rfl rfl rfl rfl ⟨rfl, rfl, Nat.le_of_ble_eq_true rfl⟩ rfl rfl (c_fail (dd := d) (hd := by omega) (hW := hW799) (kind := 6) (place := G795 12) (fk := fk) (e_fk := show G795 16 = fk from ((hF800.1 16 rfl).trans (e_fk)))  (h_kind := ⟨(by decide), (by decide)⟩) (h_place := ⟨(Int.le_trans (by decide : (-2147483648 : Int) ≤ -3000) b890.1), (Int.le_trans b890.2 (by decide : (3002 : Int) ≤ 2147483647))⟩)  (p_0 := by omega) (p_1 := by omega)) (fun o V' hq => ?_)
            obtain ⟨G891, A892, fk2_893, rfl, rfl, hW894, hF895, e896, p897, -⟩ := hq
            have hF899 := Fr_tr hF807 hF895 (Fr_sub (by decide)) (Fr_sub (by decide))
            have bfk2_893 : (0 : Int) ≤ fk2_893 ∧ fk2_893 ≤ 6 := e896 ▸ hW894.1 16
            refine .inl ⟨rfl, ?_⟩
            refine jx_ld (pc' := 69) (l' := [(0, .ref 66)]) (st' := [.ref 66]) rfl (jl_aloadn rfl) ?_
            refine jx_ar (pc' := 71) (st' := [.int (i32 (11)), .ref 66]) rfl rfl rfl rfl ?_
            refine jx_ar (pc' := 72) (st' := [.int (i32 (0)), .int (i32 (11)), .ref 66]) rfl rfl rfl rfl ?_
            refine jx_vr (pc' := 75) (as := [.int (i32 (11)), .int (i32 (0))]) (st := []) rfl rfl rfl rfl ⟨rfl, rfl, Nat.le_of_ble_eq_true rfl⟩ rfl rfl (c_newName (dd := d) (hd := by omega) (hW := hW894) (kind := 11) (many := 0) (sy := sy) (e_sy := show G891 19 = sy from ((hF895.1 19 rfl).trans ((hF800.1 19 rfl).trans (e_sy)))) (na := na) (e_na := show G891 28 = na from ((hF895.1 28 rfl).trans ((hF800.1 28 rfl).trans (e_na)))) (fk := fk2_893) (e_fk := show G891 16 = fk2_893 from (e896))  (h_kind := ⟨(by decide), (by decide)⟩) (h_many := ⟨(by decide), (by decide)⟩)  (p_0 := by omega) (p_1 := by omega)) (fun o V' hq => ?_)
            obtain ⟨G900, A901, r902, sy2_903, na2_904, fk2_905, rfl, rfl, hW906, hF907, b908, e909, e910, e911, q912⟩ := hq
            have hF913 := Fr_tr hF899 hF907 (Fr_sub (by decide)) (Fr_sub (by decide))
            have bsy2_903 : (0 : Int) ≤ sy2_903 ∧ sy2_903 ≤ 202 := e909 ▸ hW906.1 19
            have bna2_904 : (0 : Int) ≤ na2_904 ∧ na2_904 ≤ 200 := e910 ▸ hW906.1 28
            have bfk2_905 : (0 : Int) ≤ fk2_905 ∧ fk2_905 ≤ 6 := e911 ▸ hW906.1 16
            refine .inr ⟨_, rfl, ?_⟩
            rcases q912 with ⟨a914, a915, a916, a917, a918⟩ | ⟨a919, a920, a921, a922⟩
            · have _q : True := trivial
              exfalso
              omega
            · have _q : True := trivial
              refine jx_ld (pc' := 76) (l' := jSto1 [(0, .ref 66)] 1 (.int (i32 (r902)))) (st' := []) rfl rfl ?_
              obtain ⟨L923, eL923⟩ : ∃ q, q = jSto1 [(0, .ref 66)] 1 (.int (i32 (r902))) := ⟨_, rfl⟩
              rw [← eL923]
              have gL923_0 : jGet L923 0 = some (.ref 66) := eL923 ▸ jg_ne (by decide) (rfl : jGet [(0, .ref 66)] 0 = some (.ref 66)) rfl
              have gL923_1 : jGet L923 1 = some (.int (i32 (r902))) := eL923 ▸ jg_eq
              refine jx_ld (pc' := 77) (l' := L923) (st' := [.ref 66]) rfl (jl_aloadn gL923_0) ?_
              refine jx_ar (pc' := 78) (st' := [.int (i32 (1)), .ref 66]) rfl rfl rfl rfl ?_
              refine jx_vr (pc' := 81) (as := [.int (i32 (1))]) (st := []) rfl rfl rfl rfl ⟨rfl, rfl, Nat.le_of_ble_eq_true rfl⟩ rfl rfl (c_need (dd := d) (hd := by omega) (hW := hW906) (g := 1) (ln := ln) (e_ln := show G900 9 = ln from ((hF907.1 9 rfl).trans ((hF895.1 9 rfl).trans ((hF800.1 9 rfl).trans (e_ln))))) (le := le) (e_le := show A901 4 (ln).toNat = le from (congrFun ((hF907.2 4 rfl).trans ((hF895.2 4 rfl).trans (hF800.2 4 rfl))) _).trans (e_le)) (at0 := at2_797) (e_at0 := show G900 10 = at2_797 from ((hF907.1 10 rfl).trans ((hF895.1 10 rfl).trans (e801)))) (fk := fk2_905) (e_fk := show G900 16 = fk2_905 from (e911)) (tk0 := tk2_798) (e_tk0 := show G900 11 = tk2_798 from ((hF907.1 11 rfl).trans ((hF895.1 11 rfl).trans (e802))))  (h_g := ⟨(by decide), (by decide)⟩)  (p_0 := by omega)) (fun o V' hq => ?_)
              obtain ⟨G924, A925, at2_926, tk2_927, fk2_928, rfl, rfl, hW929, hF930, e931, e932, e933, p934, p935, q936⟩ := hq
              have hF937 := Fr_tr hF913 hF930 (Fr_sub (by decide)) (Fr_sub (by decide))
              have bat2_926 : (0 : Int) ≤ at2_926 ∧ at2_926 ≤ 3002 := e931 ▸ hW929.1 10
              have ztk2_927 := tz_b tk2_927
              have btk2_927 : (0 : Int) ≤ tk2_927 ∧ tk2_927 ≤ 5 := e932 ▸ hW929.1 11
              have bfk2_928 : (0 : Int) ≤ fk2_928 ∧ fk2_928 ≤ 6 := e933 ▸ hW929.1 16
              refine .inl ⟨rfl, ?_⟩
              rcases q936 with ⟨a938, a939, a940, a941⟩ | ⟨a942, a943, a944, a945⟩
              · have _q : True := trivial
                exact at_81p L923 G924 A925 (r902) (at2_926) (tk2_927) (fk2_928) (sy2_903) (na2_904) gL923_0 gL923_1 hW929 hF937 ((e931)) ((e932)) ((e933)) (((hF930.1 19 rfl).trans (e909))) (((hF930.1 28 rfl).trans (e910))) (((hF930.1 9 rfl).trans ((hF907.1 9 rfl).trans ((hF895.1 9 rfl).trans ((hF800.1 9 rfl).trans (e_ln)))))) (((hF930.1 29 rfl).trans ((hF907.1 29 rfl).trans ((hF895.1 29 rfl).trans ((hF800.1 29 rfl).trans (e_vi)))))) (((hF930.1 52 rfl).trans ((hF907.1 52 rfl).trans ((hF895.1 52 rfl).trans ((hF800.1 52 rfl).trans (e_lk0)))))) (by omega) (by omega) (by omega) (by omega) (by omega) (by omega)
              · have _q : True := trivial
                exfalso
                omega
    · have _q := h813
      refine jx_ld (pc' := 34) (l' := [(0, .ref 66)]) (st' := [.ref 66]) rfl (jl_aloadn rfl) ?_
      refine jx_ar (pc' := 35) (st' := [.int (i32 (2)), .ref 66]) rfl rfl rfl rfl ?_
      refine jx_ld (pc' := 36) (l' := [(0, .ref 66)]) (st' := [.ref 66, .int (i32 (2)), .ref 66]) rfl (jl_aloadn rfl) ?_
      have b946 : (-3000 : Int) ≤ G795 12 ∧ G795 12 ≤ 3002 := hW799.1 12
      refine jr_get (pc' := 39) (i := 12) (v := .int (i32 (G795 12))) rfl rfl (by decide) rfl rfl ?_
      refine jx_vr (pc' := 42) (as := [.int (i32 (2)), .int (i32 (G795 12))]) (st := []) rfl rfl rfl rfl ⟨rfl, rfl, Nat.le_of_ble_eq_true rfl⟩ rfl rfl (c_fail (dd := d) (hd := by omega) (hW := hW799) (kind := 2) (place := G795 12) (fk := fk) (e_fk := show G795 16 = fk from ((hF800.1 16 rfl).trans (e_fk)))  (h_kind := ⟨(by decide), (by decide)⟩) (h_place := ⟨(Int.le_trans (by decide : (-2147483648 : Int) ≤ -3000) b946.1), (Int.le_trans b946.2 (by decide : (3002 : Int) ≤ 2147483647))⟩)  (p_0 := by omega) (p_1 := by omega)) (fun o V' hq => ?_)
      obtain ⟨G947, A948, fk2_949, rfl, rfl, hW950, hF951, e952, p953, -⟩ := hq
      have hF955 := Fr_tr hF807 hF951 (Fr_sub (by decide)) (Fr_sub (by decide))
      have bfk2_949 : (0 : Int) ≤ fk2_949 ∧ fk2_949 ≤ 6 := e952 ▸ hW950.1 16
      refine .inl ⟨rfl, ?_⟩
      refine jx_ld (pc' := 43) (l' := [(0, .ref 66)]) (st' := [.ref 66]) rfl (jl_aloadn rfl) ?_
      refine jx_vr (pc' := 46) (as := []) (st := []) rfl rfl rfl rfl ⟨rfl, rfl, Nat.le_of_ble_eq_true rfl⟩ rfl rfl (c_bad (dd := d) (hd := by omega) (hW := hW950)  (fk := fk2_949) (e_fk := show G947 16 = fk2_949 from (e952))    ) (fun o V' hq => ?_)
      obtain ⟨r956, rfl, rfl, b957, q958⟩ := hq
      refine .inr ⟨_, rfl, ?_⟩
      rcases q958 with ⟨rfl, a959⟩ | ⟨rfl, a960⟩
      · have _q : True := trivial
        refine jx_if_ne (pc' := 49) (tg := 68) rfl rfl rfl (by decide) (by decide) (fun h961 => ?_) (fun h961 => ?_)
        · have _q := h961
          refine jx_ld (pc' := 69) (l' := [(0, .ref 66)]) (st' := [.ref 66]) rfl (jl_aloadn rfl) ?_
          refine jx_ar (pc' := 71) (st' := [.int (i32 (11)), .ref 66]) rfl rfl rfl rfl ?_
          refine jx_ar (pc' := 72) (st' := [.int (i32 (0)), .int (i32 (11)), .ref 66]) rfl rfl rfl rfl ?_
          refine jx_vr (pc' := 75) (as := [.int (i32 (11)), .int (i32 (0))]) (st := []) rfl rfl rfl rfl ⟨rfl, rfl, Nat.le_of_ble_eq_true rfl⟩ rfl rfl (c_newName (dd := d) (hd := by omega) (hW := hW950) (kind := 11) (many := 0) (sy := sy) (e_sy := show G947 19 = sy from ((hF951.1 19 rfl).trans ((hF800.1 19 rfl).trans (e_sy)))) (na := na) (e_na := show G947 28 = na from ((hF951.1 28 rfl).trans ((hF800.1 28 rfl).trans (e_na)))) (fk := fk2_949) (e_fk := show G947 16 = fk2_949 from (e952))  (h_kind := ⟨(by decide), (by decide)⟩) (h_many := ⟨(by decide), (by decide)⟩)  (p_0 := by omega) (p_1 := by omega)) (fun o V' hq => ?_)
          obtain ⟨G962, A963, r964, sy2_965, na2_966, fk2_967, rfl, rfl, hW968, hF969, b970, e971, e972, e973, q974⟩ := hq
          have hF975 := Fr_tr hF955 hF969 (Fr_sub (by decide)) (Fr_sub (by decide))
          have bsy2_965 : (0 : Int) ≤ sy2_965 ∧ sy2_965 ≤ 202 := e971 ▸ hW968.1 19
          have bna2_966 : (0 : Int) ≤ na2_966 ∧ na2_966 ≤ 200 := e972 ▸ hW968.1 28
          have bfk2_967 : (0 : Int) ≤ fk2_967 ∧ fk2_967 ≤ 6 := e973 ▸ hW968.1 16
          refine .inr ⟨_, rfl, ?_⟩
          rcases q974 with ⟨a976, a977, a978, a979, a980⟩ | ⟨a981, a982, a983, a984⟩
          · have _q : True := trivial
            exfalso
            omega
          · have _q : True := trivial
            refine jx_ld (pc' := 76) (l' := jSto1 [(0, .ref 66)] 1 (.int (i32 (r964)))) (st' := []) rfl rfl ?_
            obtain ⟨L985, eL985⟩ : ∃ q, q = jSto1 [(0, .ref 66)] 1 (.int (i32 (r964))) := ⟨_, rfl⟩
            rw [← eL985]
            have gL985_0 : jGet L985 0 = some (.ref 66) := eL985 ▸ jg_ne (by decide) (rfl : jGet [(0, .ref 66)] 0 = some (.ref 66)) rfl
            have gL985_1 : jGet L985 1 = some (.int (i32 (r964))) := eL985 ▸ jg_eq
            refine jx_ld (pc' := 77) (l' := L985) (st' := [.ref 66]) rfl (jl_aloadn gL985_0) ?_
            refine jx_ar (pc' := 78) (st' := [.int (i32 (1)), .ref 66]) rfl rfl rfl rfl ?_
            refine jx_vr (pc' := 81) (as := [.int (i32 (1))]) (st := []) rfl rfl rfl rfl ⟨rfl, rfl, Nat.le_of_ble_eq_true rfl⟩ rfl rfl (c_need (dd := d) (hd := by omega) (hW := hW968) (g := 1) (ln := ln) (e_ln := show G962 9 = ln from ((hF969.1 9 rfl).trans ((hF951.1 9 rfl).trans ((hF800.1 9 rfl).trans (e_ln))))) (le := le) (e_le := show A963 4 (ln).toNat = le from (congrFun ((hF969.2 4 rfl).trans ((hF951.2 4 rfl).trans (hF800.2 4 rfl))) _).trans (e_le)) (at0 := at2_797) (e_at0 := show G962 10 = at2_797 from ((hF969.1 10 rfl).trans ((hF951.1 10 rfl).trans (e801)))) (fk := fk2_967) (e_fk := show G962 16 = fk2_967 from (e973)) (tk0 := tk2_798) (e_tk0 := show G962 11 = tk2_798 from ((hF969.1 11 rfl).trans ((hF951.1 11 rfl).trans (e802))))  (h_g := ⟨(by decide), (by decide)⟩)  (p_0 := by omega)) (fun o V' hq => ?_)
            obtain ⟨G986, A987, at2_988, tk2_989, fk2_990, rfl, rfl, hW991, hF992, e993, e994, e995, p996, p997, q998⟩ := hq
            have hF999 := Fr_tr hF975 hF992 (Fr_sub (by decide)) (Fr_sub (by decide))
            have bat2_988 : (0 : Int) ≤ at2_988 ∧ at2_988 ≤ 3002 := e993 ▸ hW991.1 10
            have ztk2_989 := tz_b tk2_989
            have btk2_989 : (0 : Int) ≤ tk2_989 ∧ tk2_989 ≤ 5 := e994 ▸ hW991.1 11
            have bfk2_990 : (0 : Int) ≤ fk2_990 ∧ fk2_990 ≤ 6 := e995 ▸ hW991.1 16
            refine .inl ⟨rfl, ?_⟩
            rcases q998 with ⟨a1000, a1001, a1002, a1003⟩ | ⟨a1004, a1005, a1006, a1007⟩
            · have _q : True := trivial
              exact at_81p L985 G986 A987 (r964) (at2_988) (tk2_989) (fk2_990) (sy2_965) (na2_966) gL985_0 gL985_1 hW991 hF999 ((e993)) ((e994)) ((e995)) (((hF992.1 19 rfl).trans (e971))) (((hF992.1 28 rfl).trans (e972))) (((hF992.1 9 rfl).trans ((hF969.1 9 rfl).trans ((hF951.1 9 rfl).trans ((hF800.1 9 rfl).trans (e_ln)))))) (((hF992.1 29 rfl).trans ((hF969.1 29 rfl).trans ((hF951.1 29 rfl).trans ((hF800.1 29 rfl).trans (e_vi)))))) (((hF992.1 52 rfl).trans ((hF969.1 52 rfl).trans ((hF951.1 52 rfl).trans ((hF800.1 52 rfl).trans (e_lk0)))))) (by omega) (by omega) (by omega) (by omega) (by omega) (by omega)
            · have _q : True := trivial
              exfalso
              omega
        · have _q := h961
          exact absurd h961 (by omega)
      · have _q : True := trivial
        exfalso
        omega
  · have _q := h808
    refine jx_ld (pc' := 13) (l' := [(0, .ref 66)]) (st' := [.ref 66]) rfl (jl_aloadn rfl) ?_
    refine jx_ar (pc' := 14) (st' := [.int (i32 (1)), .ref 66]) rfl rfl rfl rfl ?_
    refine jx_ld (pc' := 15) (l' := [(0, .ref 66)]) (st' := [.ref 66, .int (i32 (1)), .ref 66]) rfl (jl_aloadn rfl) ?_
    have b1008 : (-3000 : Int) ≤ G795 12 ∧ G795 12 ≤ 3002 := hW799.1 12
    refine jr_get (pc' := 18) (i := 12) (v := .int (i32 (G795 12))) rfl rfl (by decide) rfl rfl ?_
    refine jx_vr (pc' := 21) (as := [.int (i32 (1)), .int (i32 (G795 12))]) (st := []) rfl rfl rfl rfl ⟨rfl, rfl, Nat.le_of_ble_eq_true rfl⟩ rfl rfl (c_fail (dd := d) (hd := by omega) (hW := hW799) (kind := 1) (place := G795 12) (fk := fk) (e_fk := show G795 16 = fk from ((hF800.1 16 rfl).trans (e_fk)))  (h_kind := ⟨(by decide), (by decide)⟩) (h_place := ⟨(Int.le_trans (by decide : (-2147483648 : Int) ≤ -3000) b1008.1), (Int.le_trans b1008.2 (by decide : (3002 : Int) ≤ 2147483647))⟩)  (p_0 := by omega) (p_1 := by omega)) (fun o V' hq => ?_)
    obtain ⟨G1009, A1010, fk2_1011, rfl, rfl, hW1012, hF1013, e1014, p1015, -⟩ := hq
    have hF1017 := Fr_tr hF807 hF1013 (Fr_sub (by decide)) (Fr_sub (by decide))
    have bfk2_1011 : (0 : Int) ≤ fk2_1011 ∧ fk2_1011 ≤ 6 := e1014 ▸ hW1012.1 16
    refine .inl ⟨rfl, ?_⟩
    refine jx_rt (v := none) rfl rfl rfl rfl rfl rfl ?_
    exact ⟨_, _, ln, at2_797, fk2_1011, sy, na, vi, rfl, rfl, hW1012, hF1017, ((hF1013.1 9 rfl).trans ((hF800.1 9 rfl).trans (e_ln))), ((hF1013.1 10 rfl).trans (e801)), (e1014), ((hF1013.1 19 rfl).trans ((hF800.1 19 rfl).trans (e_sy))), ((hF1013.1 28 rfl).trans ((hF800.1 28 rfl).trans (e_na))), ((hF1013.1 29 rfl).trans ((hF800.1 29 rfl).trans (e_vi))), by omega, by omega, by omega, by omega, by omega, by omega, by omega, by first | exact Or.inl (by omega) | exact Or.inr ((⟨by omega, by omega⟩))⟩
