set_option maxRecDepth 20000 in
set_option maxHeartbeats 4000000 in
theorem k_LY_put_at_100 {X : jX} {d : Nat} {R : Nat → jC} {m : Nat} {tg ln : Int → Int} {F : Int → Int → Int} {kk : Int} {me sg : Int} (hd : 1 ≤ d + 1) (hC : HC 0 m tg ln F) (o_me : own m me) (t_me : tg me = 1) (h_sg : (-2147483648 : Int) ≤ sg ∧ sg ≤ 2147483647) (c_NP : NP m tg F) (c_SB : SB m tg F (kk)) (c_T3 : T3 m tg) : ∀ (mm : Nat) (L : jL) (mx : Nat) (tgx lnx : Int → Int) (Fx : Int → Int → Int) (k : Int), (4 - k).toNat = mm → jGet L 0 = some (rv (me)) → jGet L 1 = some (.int (i32 (sg))) → jGet L 3 = some (.int (i32 k)) → Ex m tg ln mx tgx lnx → HC 0 mx tgx lnx Fx → Fq 0 [(1, 1), (20, -5)] m tg F Fx → ((-2147483648 : Int) ≤ k ∧ k ≤ 2147483647) → (0 ≤ k) → (k ≤ 4) → (Fx me (1 : Int) = F me (1 : Int) + mo sg k) → (nb sg 4 = 0) → (F me (1 : Int) + mo sg 4 ≤ 3000) → (szD mx tgx lnx = szD m tg ln) → ((mx : Int) = (m : Int)) → (NP mx tgx Fx) → (SB mx tgx Fx (kk)) → (T3 mx tgx) → wj X d jm20 (100, L, [], cV R mx tgx lnx Fx) (fun o V_q => (∃ (m_q : Nat) (tg_q ln_q : Int → Int) (F_q : Int → Int → Int) (r : Int), V_q = cV R m_q tg_q ln_q F_q ∧ o = .inl (some (.int (i32 r))) ∧ Ex m tg ln m_q tg_q ln_q ∧ HC 0 m_q tg_q ln_q F_q ∧ Fq 0 [(1, 1), (20, -5)] m tg F F_q ∧ (-2147483648 ≤ r ∧ r ≤ 2147483647) ∧ (szD m_q tg_q ln_q = szD m tg ln) ∧ ((m_q : Int) = (m : Int)) ∧ (r = F_q me (1 : Int)) ∧ (F_q me (1 : Int) = F me (1 : Int) + mo sg 4) ∧ (F_q me (1 : Int) ≤ 3000) ∧ (nb sg 4 = 0) ∧ (NP m_q tg_q F_q) ∧ (SB m_q tg_q F_q (kk)) ∧ (T3 m_q tg_q) ∧ True) ∨ (∃ (m_q : Nat) (tg_q ln_q : Int → Int) (F_q : Int → Int → Int) (x : Nat), V_q = cV R m_q tg_q ln_q F_q ∧ o = .inr x ∧ Ex m tg ln m_q tg_q ln_q ∧ HC 0 m_q tg_q ln_q F_q ∧ Fq 0 [(1, 1), (20, -5)] m tg F F_q ∧ (own m_q (x : Int)) ∧ (tg_q (x : Int) = 14 ∨ tg_q (x : Int) = 15) ∧ (szD m_q tg_q ln_q = szD m tg ln + 25) ∧ ((m_q : Int) = (m : Int) + 1) ∧ ((tg_q (x : Int) = 14 ∧ 1 ≤ nb sg 4) ∨ (tg_q (x : Int) = 15 ∧ nb sg 4 = 0 ∧ 3000 < F me (1 : Int) + mo sg 4)) ∧ (F_q me (1 : Int) = F me (1 : Int)) ∧ (NP m_q tg_q F_q) ∧ (SB m_q tg_q F_q (kk)) ∧ (T3 m_q tg_q) ∧ True)) := by
  intro mm
  induction mm using Nat.strongRecOn with
  | ind mm ih =>
    intro L mx tgx lnx Fx k hmm gL_0 gL_1 gL_3 hXx hCx hMx rx_k iv_0 iv_1 iv_2 iv_3 iv_4 iv_5 iv_6 cx_NP cx_SB cx_T3
    have hX0 : Ex m tg ln m tg ln := Ex_r
    have ho1 : own mx (me) ∧ tgx (me) = 1 := Ex_o hXx ⟨o_me, t_me⟩
    have hX2 := Ex_t hX0 hXx
    refine jx_ld (pc_q := 101) (l_q := L) (st_q := [.int (i32 (k))]) rfl (jl_iloadn gL_3) ?_
    refine jx_ar (pc_q := 102) (st_q := [.int (i32 (4)), .int (i32 (k))]) rfl rfl rfl rfl ?_
    refine jx_icmp_ge (pc_q := 105) (tg := 160) rfl rfl rfl (by omega) (by omega) (by decide) (by decide) (fun h3 => ?_) (fun h3 => ?_)
    · have _q := h3
      have k4 : k = 4 := by omega
      rw [k4] at iv_2
      refine jx_ld (pc_q := 161) (l_q := L) (st_q := [rv (me)]) rfl (jl_rvn gL_0) ?_
      refine cx_gi (pc_q := 164) (c := 0) (q := 1) (v := Fx (me) (1 : Int)) rfl rfl (by decide) (by decide) (Or.inl rfl) rfl ho1.1 ho1.2 rfl ?_
      have b4 : (0 : Int) ≤ Fx (me) (1 : Int) ∧ Fx (me) (1 : Int) ≤ 3000 := by have z := HC_i (c := 0) (q := 1) hCx ho1.1 ho1.2 (by decide) rfl; rw [show Fx (me) ((1 : Nat) : Int) = Fx (me) (1 : Int) from rfl] at z; exact z
      refine jx_rt (v := some (.int (i32 (Fx (me) (1 : Int))))) rfl rfl rfl rfl rfl rfl ?_
      exact Or.inl ⟨mx, tgx, lnx, Fx, (Fx (me) (1 : Int)), rfl, rfl, hXx, hCx, hMx, by omega, by omega, by omega, by omega, by omega, by omega, by omega, cx_NP, SB_m cx_SB (by omega), cx_T3, trivial⟩
    · have _q := h3
      refine jx_ld (pc_q := 106) (l_q := L) (st_q := [.int (i32 (sg))]) rfl (jl_iloadn gL_1) ?_
      refine jx_ar (pc_q := 108) (st_q := [.int (i32 (8)), .int (i32 (sg))]) rfl rfl rfl rfl ?_
      refine jx_ld (pc_q := 109) (l_q := L) (st_q := [.int (i32 (k)), .int (i32 (8)), .int (i32 (sg))]) rfl (jl_iloadn gL_3) ?_
      refine jx_mul (pc_q := 110) rfl rfl ?_
      refine cx_byt (pc_q := 115) (k := k) rfl rfl rfl (by omega) (by omega) rfl rfl ?_
      have b5 := bt_rg (x := sg) (s := 8 * k)
      have ms := mo_s (sg := sg) (k := k) (by omega) (by omega)
      have ns := nb_s (sg := sg) (k := k) (by omega) (by omega)
      have sf := snb_g (bt sg (8 * k))
      have tf := tz_f (bt sg (8 * k))
      refine jx_ld (pc_q := 117) (l_q := jSto1 L 4 (.int (i32 (bt sg (8 * k))))) (st_q := []) rfl rfl ?_
      obtain ⟨L6, eL6⟩ : ∃ q : jL, q = jSto1 L 4 (.int (i32 (bt sg (8 * k)))) := ⟨_, rfl⟩
      rw [← eL6]
      have g7 : jGet L6 0 = some (rv (me)) := eL6 ▸ jg_nr (by decide) gL_0
      have g8 : jGet L6 1 = some (.int (i32 (sg))) := eL6 ▸ jg_ne (by decide) gL_1 rfl
      have g9 : jGet L6 3 = some (.int (i32 (k))) := eL6 ▸ jg_ne (by decide) gL_3 rfl
      have g10 : jGet L6 4 = some (.int (i32 (bt sg (8 * k)))) := eL6 ▸ jg_eq
      clear eL6
      refine jx_ld (pc_q := 119) (l_q := L6) (st_q := [.int (i32 (bt sg (8 * k)))]) rfl (jl_iload g10) ?_
      refine jx_if_eq (pc_q := 122) (tg := 154) rfl rfl rfl (by omega) (by omega) (fun h11 => ?_) (fun h11 => ?_)
      · have _q := h11
        refine jx_inc (pc_q := 157) (l_q := jSto1 L6 3 (.int (i32 (k + (1))))) (x := k) rfl g9 (by decide) rfl rfl ?_
        obtain ⟨L12, eL12⟩ : ∃ q : jL, q = jSto1 L6 3 (.int (i32 ((k + (1))))) := ⟨_, rfl⟩
        rw [← eL12]
        have g13 : jGet L12 0 = some (rv (me)) := eL12 ▸ jg_nr (by decide) g7
        have g14 : jGet L12 1 = some (.int (i32 (sg))) := eL12 ▸ jg_ne (by decide) g8 rfl
        have g15 : jGet L12 4 = some (.int (i32 (bt sg (8 * k)))) := eL12 ▸ jg_ne (by decide) g10 rfl
        have g16 : jGet L12 3 = some (.int (i32 ((k + (1))))) := eL12 ▸ jg_eq
        clear eL12
        refine jx_go (tg := 100) rfl rfl ?_
        exact ih _ (by omega) L12 mx tgx lnx Fx ((k + (1))) rfl g13 g14 g16 hXx hCx hMx (by omega) (by omega) (by omega) (by omega) (by omega) (by omega) (by omega) (by omega) cx_NP (SB_m cx_SB (by omega)) cx_T3
      · have _q := h11
        refine jx_ld (pc_q := 123) (l_q := L6) (st_q := [rv (me)]) rfl (jl_rvn g7) ?_
        refine cx_gi (pc_q := 126) (c := 0) (q := 1) (v := Fx (me) (1 : Int)) rfl rfl (by decide) (by decide) (Or.inl rfl) rfl ho1.1 ho1.2 rfl ?_
        have b17 : (0 : Int) ≤ Fx (me) (1 : Int) ∧ Fx (me) (1 : Int) ≤ 3000 := by have z := HC_i (c := 0) (q := 1) hCx ho1.1 ho1.2 (by decide) rfl; rw [show Fx (me) ((1 : Nat) : Int) = Fx (me) (1 : Int) from rfl] at z; exact z
        refine jx_ar (pc_q := 129) (st_q := [.int (i32 (3000)), .int (i32 (Fx (me) (1 : Int)))]) rfl rfl rfl rfl ?_
        refine jx_icmp_ge (pc_q := 132) (tg := 154) rfl rfl rfl (by omega) (by omega) (by decide) (by decide) (fun h18 => ?_) (fun h18 => ?_)
        · have _q := h18
          refine jx_inc (pc_q := 157) (l_q := jSto1 L6 3 (.int (i32 (k + (1))))) (x := k) rfl g9 (by decide) rfl rfl ?_
          obtain ⟨L19, eL19⟩ : ∃ q : jL, q = jSto1 L6 3 (.int (i32 ((k + (1))))) := ⟨_, rfl⟩
          rw [← eL19]
          have g20 : jGet L19 0 = some (rv (me)) := eL19 ▸ jg_nr (by decide) g7
          have g21 : jGet L19 1 = some (.int (i32 (sg))) := eL19 ▸ jg_ne (by decide) g8 rfl
          have g22 : jGet L19 4 = some (.int (i32 (bt sg (8 * k)))) := eL19 ▸ jg_ne (by decide) g10 rfl
          have g23 : jGet L19 3 = some (.int (i32 ((k + (1))))) := eL19 ▸ jg_eq
          clear eL19
          refine jx_go (tg := 100) rfl rfl ?_
          exact ih _ (by omega) L19 mx tgx lnx Fx ((k + (1))) rfl g20 g21 g23 hXx hCx hMx (by omega) (by omega) (by omega) (by omega) (by omega) (by omega) (by omega) (by omega) cx_NP (SB_m cx_SB (by omega)) cx_T3
        · have _q := h18
          refine jx_ld (pc_q := 133) (l_q := L6) (st_q := [rv (me)]) rfl (jl_rvn g7) ?_
          refine cx_gr (pc_q := 136) (c := 0) (q := 0) (v := F (me) (0 : Int)) rfl rfl (by decide) (by decide) rfl rfl ho1.1 ho1.2 (show Fx (me) (0 : Int) = F (me) (0 : Int) from hMx _ _ o_me (own_z o_me) (by rw [t_me]; rfl)) ?_
          have y24 : own mx (F (me) (0 : Int)) ∧ tgx (F (me) (0 : Int)) = 20 ∧ ((3000 : Int) ≠ 0 → lnx (F (me) (0 : Int)) = 3000) := by have z := HC_n (c := 0) (q := 0) hCx ho1.1 ho1.2 (own_z ho1.1) (by decide) rfl; rw [show Fx (me) ((0 : Nat) : Int) = F (me) (0 : Int) from (show Fx (me) (0 : Int) = F (me) (0 : Int) from hMx _ _ o_me (own_z o_me) (by rw [t_me]; rfl))] at z; exact ⟨z.1, z.2.1, z.2.2.1⟩
          have ly24 : lnx (F (me) (0 : Int)) = 3000 := y24.2.2 (by decide)
          refine jx_ld (pc_q := 137) (l_q := L6) (st_q := [rv (me), rv (F (me) (0 : Int))]) rfl (jl_rvn g7) ?_
          refine cx_gi (pc_q := 140) (c := 0) (q := 1) (v := Fx (me) (1 : Int)) rfl rfl (by decide) (by decide) (Or.inl rfl) rfl ho1.1 ho1.2 rfl ?_
          refine jx_ld (pc_q := 142) (l_q := L6) (st_q := [.int (i32 (bt sg (8 * k))), .int (i32 (Fx (me) (1 : Int))), rv (F (me) (0 : Int))]) rfl (jl_iload g10) ?_
          refine cx_i2b (pc_q := 143) rfl rfl (fun r25 hr25 kr25 => ?_)
          have qr25 : r25 = bt sg (8 * k) := kr25 (by omega) (by omega)
          have b26 := HC_l hCx y24.1 y24.2.1 (by decide)
          refine cx_bas2 (pc_q := 144) (z := Fx (me) (1 : Int)) (y := r25) rfl rfl y24.1 y24.2.1 (by omega) (by omega) (by omega) (fun w27 hw27 kw27 => ?_)
          have qw27 : w27 = r25 := kw27 (by omega) (by omega)
          obtain ⟨F28, eF28⟩ : ∃ q, q = uF Fx (F (me) (0 : Int)) (Fx (me) (1 : Int)) (w27) := ⟨_, rfl⟩
          rw [← eF28]
          have hC29 : HC 0 mx tgx lnx F28 := by rw [eF28]; exact HC_pi hCx y24.1 y24.2.1 (by decide) (by omega) (by rw [(show Fx (F (me) (0 : Int)) (-1) = 4 by have z := HC_n (c := 0) (q := 0) hCx ho1.1 ho1.2 (own_z ho1.1) (by decide) rfl; rw [show Fx (me) ((0 : Nat) : Int) = F (me) (0 : Int) from (show Fx (me) (0 : Int) = F (me) (0 : Int) from hMx _ _ o_me (own_z o_me) (by rw [t_me]; rfl))] at z; exact z.2.2.2 (by decide))]; exact ⟨(by show (0 : Int) ≤ _; omega), (by show _ ≤ (127 : Int); omega)⟩)
          have hM30 : Fq 0 [(1, 1), (20, -5)] m tg F F28 := by rw [eF28]; exact Fq_p hMx y24.2.1 (fun w => (hXx.2 _ w).1) (inL_a rfl (by omega) rfl)
          have c31 : NP mx tgx F28 := by rw [eF28]; exact NP_u hCx cx_NP y24.2.1 (by omega)
          have c32 : SB mx tgx F28 (kk) := by rw [eF28]; exact SB_u cx_SB y24.2.1 (by omega)
          refine jx_ld (pc_q := 145) (l_q := L6) (st_q := [rv (me)]) rfl (jl_rvn g7) ?_
          refine jx_ar (pc_q := 146) (st_q := [rv (me), rv (me)]) rfl rfl ja_dup rfl ?_
          refine cx_gi (pc_q := 149) (c := 0) (q := 1) (v := Fx (me) (1 : Int)) rfl rfl (by decide) (by decide) (Or.inl rfl) rfl ho1.1 ho1.2 (show F28 (me) (1 : Int) = Fx (me) (1 : Int) from by rw [eF28]; exact uF_a (fun w => by have q1 := ho1.2; have q2 := y24.2.1; rw [w, q2] at q1; exact absurd q1 (by decide))) ?_
          refine jx_ar (pc_q := 150) (st_q := [.int (i32 (1)), .int (i32 (Fx (me) (1 : Int))), rv (me)]) rfl rfl rfl rfl ?_
          refine jx_add (pc_q := 151) rfl rfl ?_
          refine cx_pi (pc_q := 154) (c := 0) (q := 1) (qi := (1 : Int)) (z := (Fx (me) (1 : Int) + 1)) rfl rfl (by decide) (by decide) rfl rfl rfl (by decide) rfl ho1.1 ho1.2 rfl ?_
          obtain ⟨F33, eF33⟩ : ∃ q, q = uF F28 (me) (1 : Int) ((Fx (me) (1 : Int) + 1)) := ⟨_, rfl⟩
          rw [← eF33]
          have hC34 : HC 0 mx tgx lnx F33 := by rw [eF33]; exact HC_fi (c := 0) (q := 1) hC29 ho1.2 (by decide) rfl (by omega) (by omega) ⟨fun w => absurd w (by decide), fun w => absurd w (by decide)⟩
          have hM35 : Fq 0 [(1, 1), (20, -5)] m tg F F33 := by rw [eF33]; exact Fq_p hM30 ho1.2 (fun w => (hXx.2 _ w).1) rfl
          have c36 : NP mx tgx F33 := by rw [eF33]; exact NP_u hC29 c31 ho1.2 (by omega)
          have c37 : SB mx tgx F33 (kk) := by rw [eF33]; exact SB_u c32 ho1.2 (by omega)
          refine jx_inc (pc_q := 157) (l_q := jSto1 L6 3 (.int (i32 (k + (1))))) (x := k) rfl g9 (by decide) rfl rfl ?_
          obtain ⟨L38, eL38⟩ : ∃ q : jL, q = jSto1 L6 3 (.int (i32 ((k + (1))))) := ⟨_, rfl⟩
          rw [← eL38]
          have g39 : jGet L38 0 = some (rv (me)) := eL38 ▸ jg_nr (by decide) g7
          have g40 : jGet L38 1 = some (.int (i32 (sg))) := eL38 ▸ jg_ne (by decide) g8 rfl
          have g41 : jGet L38 4 = some (.int (i32 (bt sg (8 * k)))) := eL38 ▸ jg_ne (by decide) g10 rfl
          have g42 : jGet L38 3 = some (.int (i32 ((k + (1))))) := eL38 ▸ jg_eq
          clear eL38
          refine jx_go (tg := 100) rfl rfl ?_
          have q43 : F33 (me) (1 : Int) = (Fx (me) (1 : Int) + 1) := (show F33 (me) (1 : Int) = (Fx (me) (1 : Int) + 1) from by rw [eF33]; exact uF_e)
          exact ih _ (by omega) L38 mx tgx lnx F33 ((k + (1))) rfl g39 g40 g42 hXx hC34 hM35 (by omega) (by omega) (by omega) (by omega) (by omega) (by omega) (by omega) (by omega) c36 (SB_m c37 (by omega)) cx_T3
set_option maxRecDepth 20000 in
set_option maxHeartbeats 4000000 in
theorem k_LY_put_at_4 {X : jX} {d : Nat} {R : Nat → jC} {m : Nat} {tg ln : Int → Int} {F : Int → Int → Int} {kk : Int} {me sg : Int} (hd : 1 ≤ d + 1) (hC : HC 0 m tg ln F) (o_me : own m me) (t_me : tg me = 1) (h_sg : (-2147483648 : Int) ≤ sg ∧ sg ≤ 2147483647) (c_NP : NP m tg F) (c_SB : SB m tg F (kk)) (c_T3 : T3 m tg) : ∀ (mm : Nat) (L : jL) (mr k : Int), (4 - k).toNat = mm → jGet L 0 = some (rv (me)) → jGet L 1 = some (.int (i32 (sg))) → jGet L 2 = some (.int (i32 mr)) → jGet L 3 = some (.int (i32 k)) → ((-2147483648 : Int) ≤ mr ∧ mr ≤ 2147483647) → ((-2147483648 : Int) ≤ k ∧ k ≤ 2147483647) → (0 ≤ k) → (k ≤ 4) → (mr = mo sg k) → (nb sg k = 0) → (0 ≤ mr) → (mr ≤ k) → (NP m tg F) → (SB m tg F (kk)) → (T3 m tg) → wj X d jm20 (4, L, [], cV R m tg ln F) (fun o V_q => (∃ (m_q : Nat) (tg_q ln_q : Int → Int) (F_q : Int → Int → Int) (r : Int), V_q = cV R m_q tg_q ln_q F_q ∧ o = .inl (some (.int (i32 r))) ∧ Ex m tg ln m_q tg_q ln_q ∧ HC 0 m_q tg_q ln_q F_q ∧ Fq 0 [(1, 1), (20, -5)] m tg F F_q ∧ (-2147483648 ≤ r ∧ r ≤ 2147483647) ∧ (szD m_q tg_q ln_q = szD m tg ln) ∧ ((m_q : Int) = (m : Int)) ∧ (r = F_q me (1 : Int)) ∧ (F_q me (1 : Int) = F me (1 : Int) + mo sg 4) ∧ (F_q me (1 : Int) ≤ 3000) ∧ (nb sg 4 = 0) ∧ (NP m_q tg_q F_q) ∧ (SB m_q tg_q F_q (kk)) ∧ (T3 m_q tg_q) ∧ True) ∨ (∃ (m_q : Nat) (tg_q ln_q : Int → Int) (F_q : Int → Int → Int) (x : Nat), V_q = cV R m_q tg_q ln_q F_q ∧ o = .inr x ∧ Ex m tg ln m_q tg_q ln_q ∧ HC 0 m_q tg_q ln_q F_q ∧ Fq 0 [(1, 1), (20, -5)] m tg F F_q ∧ (own m_q (x : Int)) ∧ (tg_q (x : Int) = 14 ∨ tg_q (x : Int) = 15) ∧ (szD m_q tg_q ln_q = szD m tg ln + 25) ∧ ((m_q : Int) = (m : Int) + 1) ∧ ((tg_q (x : Int) = 14 ∧ 1 ≤ nb sg 4) ∨ (tg_q (x : Int) = 15 ∧ nb sg 4 = 0 ∧ 3000 < F me (1 : Int) + mo sg 4)) ∧ (F_q me (1 : Int) = F me (1 : Int)) ∧ (NP m_q tg_q F_q) ∧ (SB m_q tg_q F_q (kk)) ∧ (T3 m_q tg_q) ∧ True)) := by
  intro mm
  induction mm using Nat.strongRecOn with
  | ind mm ih =>
    intro L mr k hmm gL_0 gL_1 gL_2 gL_3 rx_mr rx_k iv_0 iv_1 iv_2 iv_3 iv_4 iv_5 cx_NP cx_SB cx_T3
    have hM0 : Fq 0 [(1, 1), (20, -5)] m tg F F := Fq_r
    have hX0 : Ex m tg ln m tg ln := Ex_r
    refine jx_ld (pc_q := 5) (l_q := L) (st_q := [.int (i32 (k))]) rfl (jl_iloadn gL_3) ?_
    refine jx_ar (pc_q := 6) (st_q := [.int (i32 (4)), .int (i32 (k))]) rfl rfl rfl rfl ?_
    refine jx_icmp_ge (pc_q := 9) (tg := 76) rfl rfl rfl (by omega) (by omega) (by decide) (by decide) (fun h44 => ?_) (fun h44 => ?_)
    · have _q := h44
      have k4 : k = 4 := by omega
      rw [k4] at iv_2 iv_3
      have m0 := mo_0 (sg := sg)
      refine jx_ld (pc_q := 77) (l_q := L) (st_q := [rv (me)]) rfl (jl_rvn gL_0) ?_
      refine cx_gi (pc_q := 80) (c := 0) (q := 1) (v := F (me) (1 : Int)) rfl rfl (by decide) (by decide) (Or.inl rfl) rfl o_me t_me rfl ?_
      have b45 : (0 : Int) ≤ F (me) (1 : Int) ∧ F (me) (1 : Int) ≤ 3000 := by have z := HC_i (c := 0) (q := 1) hC o_me t_me (by decide) rfl; rw [show F (me) ((1 : Nat) : Int) = F (me) (1 : Int) from rfl] at z; exact z
      refine jx_ld (pc_q := 81) (l_q := L) (st_q := [.int (i32 (mr)), .int (i32 (F (me) (1 : Int)))]) rfl (jl_iloadn gL_2) ?_
      refine jx_add (pc_q := 82) rfl rfl ?_
      refine jx_ar (pc_q := 85) (st_q := [.int (i32 (3000)), .int (i32 ((F (me) (1 : Int) + mr)))]) rfl rfl rfl rfl ?_
      refine jx_icmp_le (pc_q := 88) (tg := 98) rfl rfl rfl (by omega) (by omega) (by decide) (by decide) (fun h46 => ?_) (fun h46 => ?_)
      · have _q := h46
        refine jx_ar (pc_q := 99) (st_q := [.int (i32 (0))]) rfl rfl rfl rfl ?_
        refine jx_ld (pc_q := 100) (l_q := jSto1 L 3 (.int (i32 (0)))) (st_q := []) rfl rfl ?_
        obtain ⟨L47, eL47⟩ : ∃ q : jL, q = jSto1 L 3 (.int (i32 (0))) := ⟨_, rfl⟩
        rw [← eL47]
        have g48 : jGet L47 0 = some (rv (me)) := eL47 ▸ jg_nr (by decide) gL_0
        have g49 : jGet L47 1 = some (.int (i32 (sg))) := eL47 ▸ jg_ne (by decide) gL_1 rfl
        have g50 : jGet L47 2 = some (.int (i32 (mr))) := eL47 ▸ jg_ne (by decide) gL_2 rfl
        have g51 : jGet L47 3 = some (.int (i32 (0))) := eL47 ▸ jg_eq
        clear eL47
        exact k_LY_put_at_100 (X := X) (d := d) (R := R) (m := m) (tg := tg) (ln := ln) (F := F) (kk := kk) (me := me) (sg := sg) (hd := hd) (hC := hC) (o_me := o_me) (t_me := t_me) (h_sg := h_sg) (c_NP := c_NP) (c_SB := c_SB) (c_T3 := c_T3) _ L47 m tg ln F (0) rfl g48 g49 g51 hX0 hC hM0 (by omega) (by omega) (by omega) (by omega) (by omega) (by omega) (by omega) (by omega) cx_NP (SB_m cx_SB (by omega)) cx_T3
      · have _q := h46
        refine cx_thr2 (c := 14) rfl rfl rfl rfl ⟨by decide, by decide, (Nat.le_of_ble_eq_true rfl), rfl, rfl, rfl⟩ rfl rfl hC (fun x52 m52 tg52 ln52 F52 en52 em52 ho52 hx52 hC52 hf52 hs52 => ?_)
        have ex52 : 64 + (m : Int) ≤ (x52 : Int) := by have := hX0.1; omega
        have c53 : SB m52 tg52 F52 (kk) := SB_n cx_SB hC.1 hx52 en52 em52 hf52 ho52.2 (Or.inl (by decide))
        have c54 : T3 m52 tg52 := T3_n cx_T3 hC.1 hx52 en52 em52 ho52.2 (by decide)
        have c55 : NP m52 tg52 F52 := NP_nn hC cx_NP hx52 en52 em52 (fun b i ob => hf52 b i (ne_n ob en52)) (fun w => absurd (ho52.2.symm.trans w) (by decide)) (fun w => absurd (ho52.2.symm.trans w) (by decide)) (fun w => absurd (ho52.2.symm.trans w) (by decide))
        have lm56 := hx52.1
        exact Or.inr ⟨m52, tg52, ln52, F52, x52, rfl, rfl, Ex_t hX0 hx52, hC52, Fq_n hM0 hf52 ex52, ho52.1, Or.inr (ho52.2), by omega, by omega, (Or.inr ⟨ho52.2, by omega, by omega⟩), ((hf52 _ _ (ne_n o_me en52)).trans rfl), c55, SB_m c53 (by omega), c54, trivial⟩
    · have _q := h44
      refine jx_ld (pc_q := 10) (l_q := L) (st_q := [.int (i32 (sg))]) rfl (jl_iloadn gL_1) ?_
      refine jx_ar (pc_q := 12) (st_q := [.int (i32 (8)), .int (i32 (sg))]) rfl rfl rfl rfl ?_
      refine jx_ld (pc_q := 13) (l_q := L) (st_q := [.int (i32 (k)), .int (i32 (8)), .int (i32 (sg))]) rfl (jl_iloadn gL_3) ?_
      refine jx_mul (pc_q := 14) rfl rfl ?_
      refine cx_byt (pc_q := 19) (k := k) rfl rfl rfl (by omega) (by omega) rfl rfl ?_
      have b57 := bt_rg (x := sg) (s := 8 * k)
      have ms := mo_s (sg := sg) (k := k) (by omega) (by omega)
      have ns := nb_s (sg := sg) (k := k) (by omega) (by omega)
      have sf := snb_g (bt sg (8 * k))
      have tf := tz_f (bt sg (8 * k))
      refine jx_ld (pc_q := 21) (l_q := jSto1 L 4 (.int (i32 (bt sg (8 * k))))) (st_q := []) rfl rfl ?_
      obtain ⟨L58, eL58⟩ : ∃ q : jL, q = jSto1 L 4 (.int (i32 (bt sg (8 * k)))) := ⟨_, rfl⟩
      rw [← eL58]
      have g59 : jGet L58 0 = some (rv (me)) := eL58 ▸ jg_nr (by decide) gL_0
      have g60 : jGet L58 1 = some (.int (i32 (sg))) := eL58 ▸ jg_ne (by decide) gL_1 rfl
      have g61 : jGet L58 2 = some (.int (i32 (mr))) := eL58 ▸ jg_ne (by decide) gL_2 rfl
      have g62 : jGet L58 3 = some (.int (i32 (k))) := eL58 ▸ jg_ne (by decide) gL_3 rfl
      have g63 : jGet L58 4 = some (.int (i32 (bt sg (8 * k)))) := eL58 ▸ jg_eq
      clear eL58
      refine jx_ld (pc_q := 23) (l_q := L58) (st_q := [.int (i32 (bt sg (8 * k)))]) rfl (jl_iload g63) ?_
      refine jx_if_eq (pc_q := 26) (tg := 57) rfl rfl rfl (by omega) (by omega) (fun h64 => ?_) (fun h64 => ?_)
      · have _q := h64
        refine jx_ld (pc_q := 58) (l_q := L58) (st_q := [.int (i32 (mr))]) rfl (jl_iloadn g61) ?_
        refine jx_ld (pc_q := 60) (l_q := L58) (st_q := [.int (i32 (bt sg (8 * k))), .int (i32 (mr))]) rfl (jl_iload g63) ?_
        refine jx_if_ne (pc_q := 63) (tg := 67) rfl rfl rfl (by omega) (by omega) (fun h65 => ?_) (fun h65 => ?_)
        · have _q := h65
          refine jx_ar (pc_q := 68) (st_q := [.int (i32 (1)), .int (i32 (mr))]) rfl rfl rfl rfl ?_
          refine jx_add (pc_q := 69) rfl rfl ?_
          refine jx_ld (pc_q := 70) (l_q := jSto1 L58 2 (.int (i32 ((mr + 1))))) (st_q := []) rfl rfl ?_
          obtain ⟨L66, eL66⟩ : ∃ q : jL, q = jSto1 L58 2 (.int (i32 ((mr + 1)))) := ⟨_, rfl⟩
          rw [← eL66]
          have g67 : jGet L66 0 = some (rv (me)) := eL66 ▸ jg_nr (by decide) g59
          have g68 : jGet L66 1 = some (.int (i32 (sg))) := eL66 ▸ jg_ne (by decide) g60 rfl
          have g69 : jGet L66 3 = some (.int (i32 (k))) := eL66 ▸ jg_ne (by decide) g62 rfl
          have g70 : jGet L66 4 = some (.int (i32 (bt sg (8 * k)))) := eL66 ▸ jg_ne (by decide) g63 rfl
          have g71 : jGet L66 2 = some (.int (i32 ((mr + 1)))) := eL66 ▸ jg_eq
          clear eL66
          refine jx_inc (pc_q := 73) (l_q := jSto1 L66 3 (.int (i32 (k + (1))))) (x := k) rfl g69 (by decide) rfl rfl ?_
          obtain ⟨L72, eL72⟩ : ∃ q : jL, q = jSto1 L66 3 (.int (i32 ((k + (1))))) := ⟨_, rfl⟩
          rw [← eL72]
          have g73 : jGet L72 0 = some (rv (me)) := eL72 ▸ jg_nr (by decide) g67
          have g74 : jGet L72 1 = some (.int (i32 (sg))) := eL72 ▸ jg_ne (by decide) g68 rfl
          have g75 : jGet L72 4 = some (.int (i32 (bt sg (8 * k)))) := eL72 ▸ jg_ne (by decide) g70 rfl
          have g76 : jGet L72 2 = some (.int (i32 ((mr + 1)))) := eL72 ▸ jg_ne (by decide) g71 rfl
          have g77 : jGet L72 3 = some (.int (i32 ((k + (1))))) := eL72 ▸ jg_eq
          clear eL72
          refine jx_go (tg := 4) rfl rfl ?_
          exact ih _ (by omega) L72 ((mr + 1)) ((k + (1))) rfl g73 g74 g76 g77 (by omega) (by omega) (by omega) (by omega) (by omega) (by omega) (by omega) (by omega) cx_NP (SB_m cx_SB (by omega)) cx_T3
        · have _q := h65
          refine jx_ar (pc_q := 64) (st_q := [.int (i32 (0)), .int (i32 (mr))]) rfl rfl rfl rfl ?_
          refine jx_go (tg := 68) rfl rfl ?_
          refine jx_add (pc_q := 69) rfl rfl ?_
          refine jx_ld (pc_q := 70) (l_q := jSto1 L58 2 (.int (i32 ((mr + 0))))) (st_q := []) rfl rfl ?_
          obtain ⟨L78, eL78⟩ : ∃ q : jL, q = jSto1 L58 2 (.int (i32 ((mr + 0)))) := ⟨_, rfl⟩
          rw [← eL78]
          have g79 : jGet L78 0 = some (rv (me)) := eL78 ▸ jg_nr (by decide) g59
          have g80 : jGet L78 1 = some (.int (i32 (sg))) := eL78 ▸ jg_ne (by decide) g60 rfl
          have g81 : jGet L78 3 = some (.int (i32 (k))) := eL78 ▸ jg_ne (by decide) g62 rfl
          have g82 : jGet L78 4 = some (.int (i32 (bt sg (8 * k)))) := eL78 ▸ jg_ne (by decide) g63 rfl
          have g83 : jGet L78 2 = some (.int (i32 ((mr + 0)))) := eL78 ▸ jg_eq
          clear eL78
          refine jx_inc (pc_q := 73) (l_q := jSto1 L78 3 (.int (i32 (k + (1))))) (x := k) rfl g81 (by decide) rfl rfl ?_
          obtain ⟨L84, eL84⟩ : ∃ q : jL, q = jSto1 L78 3 (.int (i32 ((k + (1))))) := ⟨_, rfl⟩
          rw [← eL84]
          have g85 : jGet L84 0 = some (rv (me)) := eL84 ▸ jg_nr (by decide) g79
          have g86 : jGet L84 1 = some (.int (i32 (sg))) := eL84 ▸ jg_ne (by decide) g80 rfl
          have g87 : jGet L84 4 = some (.int (i32 (bt sg (8 * k)))) := eL84 ▸ jg_ne (by decide) g82 rfl
          have g88 : jGet L84 2 = some (.int (i32 ((mr + 0)))) := eL84 ▸ jg_ne (by decide) g83 rfl
          have g89 : jGet L84 3 = some (.int (i32 ((k + (1))))) := eL84 ▸ jg_eq
          clear eL84
          refine jx_go (tg := 4) rfl rfl ?_
          exact ih _ (by omega) L84 ((mr + 0)) ((k + (1))) rfl g85 g86 g88 g89 (by omega) (by omega) (by omega) (by omega) (by omega) (by omega) (by omega) (by omega) cx_NP (SB_m cx_SB (by omega)) cx_T3
      · have _q := h64
        refine jx_ld (pc_q := 28) (l_q := L58) (st_q := [.int (i32 (bt sg (8 * k)))]) rfl (jl_iload g63) ?_
        refine jx_ar (pc_q := 30) (st_q := [.int (i32 (10)), .int (i32 (bt sg (8 * k)))]) rfl rfl rfl rfl ?_
        refine jx_icmp_eq (pc_q := 33) (tg := 57) rfl rfl rfl (by omega) (by omega) (by decide) (by decide) (fun h90 => ?_) (fun h90 => ?_)
        · have _q := h90
          refine jx_ld (pc_q := 58) (l_q := L58) (st_q := [.int (i32 (mr))]) rfl (jl_iloadn g61) ?_
          refine jx_ld (pc_q := 60) (l_q := L58) (st_q := [.int (i32 (bt sg (8 * k))), .int (i32 (mr))]) rfl (jl_iload g63) ?_
          refine jx_if_ne (pc_q := 63) (tg := 67) rfl rfl rfl (by omega) (by omega) (fun h91 => ?_) (fun h91 => ?_)
          · have _q := h91
            refine jx_ar (pc_q := 68) (st_q := [.int (i32 (1)), .int (i32 (mr))]) rfl rfl rfl rfl ?_
            refine jx_add (pc_q := 69) rfl rfl ?_
            refine jx_ld (pc_q := 70) (l_q := jSto1 L58 2 (.int (i32 ((mr + 1))))) (st_q := []) rfl rfl ?_
            obtain ⟨L92, eL92⟩ : ∃ q : jL, q = jSto1 L58 2 (.int (i32 ((mr + 1)))) := ⟨_, rfl⟩
            rw [← eL92]
            have g93 : jGet L92 0 = some (rv (me)) := eL92 ▸ jg_nr (by decide) g59
            have g94 : jGet L92 1 = some (.int (i32 (sg))) := eL92 ▸ jg_ne (by decide) g60 rfl
            have g95 : jGet L92 3 = some (.int (i32 (k))) := eL92 ▸ jg_ne (by decide) g62 rfl
            have g96 : jGet L92 4 = some (.int (i32 (bt sg (8 * k)))) := eL92 ▸ jg_ne (by decide) g63 rfl
            have g97 : jGet L92 2 = some (.int (i32 ((mr + 1)))) := eL92 ▸ jg_eq
            clear eL92
            refine jx_inc (pc_q := 73) (l_q := jSto1 L92 3 (.int (i32 (k + (1))))) (x := k) rfl g95 (by decide) rfl rfl ?_
            obtain ⟨L98, eL98⟩ : ∃ q : jL, q = jSto1 L92 3 (.int (i32 ((k + (1))))) := ⟨_, rfl⟩
            rw [← eL98]
            have g99 : jGet L98 0 = some (rv (me)) := eL98 ▸ jg_nr (by decide) g93
            have g100 : jGet L98 1 = some (.int (i32 (sg))) := eL98 ▸ jg_ne (by decide) g94 rfl
            have g101 : jGet L98 4 = some (.int (i32 (bt sg (8 * k)))) := eL98 ▸ jg_ne (by decide) g96 rfl
            have g102 : jGet L98 2 = some (.int (i32 ((mr + 1)))) := eL98 ▸ jg_ne (by decide) g97 rfl
            have g103 : jGet L98 3 = some (.int (i32 ((k + (1))))) := eL98 ▸ jg_eq
            clear eL98
            refine jx_go (tg := 4) rfl rfl ?_
            exact ih _ (by omega) L98 ((mr + 1)) ((k + (1))) rfl g99 g100 g102 g103 (by omega) (by omega) (by omega) (by omega) (by omega) (by omega) (by omega) (by omega) cx_NP (SB_m cx_SB (by omega)) cx_T3
          · have _q := h91
            refine jx_ar (pc_q := 64) (st_q := [.int (i32 (0)), .int (i32 (mr))]) rfl rfl rfl rfl ?_
            refine jx_go (tg := 68) rfl rfl ?_
            refine jx_add (pc_q := 69) rfl rfl ?_
            refine jx_ld (pc_q := 70) (l_q := jSto1 L58 2 (.int (i32 ((mr + 0))))) (st_q := []) rfl rfl ?_
            obtain ⟨L104, eL104⟩ : ∃ q : jL, q = jSto1 L58 2 (.int (i32 ((mr + 0)))) := ⟨_, rfl⟩
            rw [← eL104]
            have g105 : jGet L104 0 = some (rv (me)) := eL104 ▸ jg_nr (by decide) g59
            have g106 : jGet L104 1 = some (.int (i32 (sg))) := eL104 ▸ jg_ne (by decide) g60 rfl
            have g107 : jGet L104 3 = some (.int (i32 (k))) := eL104 ▸ jg_ne (by decide) g62 rfl
            have g108 : jGet L104 4 = some (.int (i32 (bt sg (8 * k)))) := eL104 ▸ jg_ne (by decide) g63 rfl
            have g109 : jGet L104 2 = some (.int (i32 ((mr + 0)))) := eL104 ▸ jg_eq
            clear eL104
            refine jx_inc (pc_q := 73) (l_q := jSto1 L104 3 (.int (i32 (k + (1))))) (x := k) rfl g107 (by decide) rfl rfl ?_
            obtain ⟨L110, eL110⟩ : ∃ q : jL, q = jSto1 L104 3 (.int (i32 ((k + (1))))) := ⟨_, rfl⟩
            rw [← eL110]
            have g111 : jGet L110 0 = some (rv (me)) := eL110 ▸ jg_nr (by decide) g105
            have g112 : jGet L110 1 = some (.int (i32 (sg))) := eL110 ▸ jg_ne (by decide) g106 rfl
            have g113 : jGet L110 4 = some (.int (i32 (bt sg (8 * k)))) := eL110 ▸ jg_ne (by decide) g108 rfl
            have g114 : jGet L110 2 = some (.int (i32 ((mr + 0)))) := eL110 ▸ jg_ne (by decide) g109 rfl
            have g115 : jGet L110 3 = some (.int (i32 ((k + (1))))) := eL110 ▸ jg_eq
            clear eL110
            refine jx_go (tg := 4) rfl rfl ?_
            exact ih _ (by omega) L110 ((mr + 0)) ((k + (1))) rfl g111 g112 g114 g115 (by omega) (by omega) (by omega) (by omega) (by omega) (by omega) (by omega) (by omega) cx_NP (SB_m cx_SB (by omega)) cx_T3
        · have _q := h90
          refine jx_ld (pc_q := 35) (l_q := L58) (st_q := [.int (i32 (bt sg (8 * k)))]) rfl (jl_iload g63) ?_
          refine jx_ar (pc_q := 37) (st_q := [.int (i32 (32)), .int (i32 (bt sg (8 * k)))]) rfl rfl rfl rfl ?_
          refine jx_icmp_lt (pc_q := 40) (tg := 47) rfl rfl rfl (by omega) (by omega) (by decide) (by decide) (fun h116 => ?_) (fun h116 => ?_)
          · have _q := h116
            refine cx_thr2 (c := 13) rfl rfl rfl rfl ⟨by decide, by decide, (Nat.le_of_ble_eq_true rfl), rfl, rfl, rfl⟩ rfl rfl hC (fun x117 m117 tg117 ln117 F117 en117 em117 ho117 hx117 hC117 hf117 hs117 => ?_)
            have ex117 : 64 + (m : Int) ≤ (x117 : Int) := by have := hX0.1; omega
            have c118 : SB m117 tg117 F117 (kk) := SB_n cx_SB hC.1 hx117 en117 em117 hf117 ho117.2 (Or.inl (by decide))
            have c119 : T3 m117 tg117 := T3_n cx_T3 hC.1 hx117 en117 em117 ho117.2 (by decide)
            have c120 : NP m117 tg117 F117 := NP_nn hC cx_NP hx117 en117 em117 (fun b i ob => hf117 b i (ne_n ob en117)) (fun w => absurd (ho117.2.symm.trans w) (by decide)) (fun w => absurd (ho117.2.symm.trans w) (by decide)) (fun w => absurd (ho117.2.symm.trans w) (by decide))
            have lm121 := hx117.1
            exact Or.inr ⟨m117, tg117, ln117, F117, x117, rfl, rfl, Ex_t hX0 hx117, hC117, Fq_n hM0 hf117 ex117, ho117.1, Or.inl (ho117.2), by omega, by omega, (Or.inl ⟨ho117.2, by omega⟩), ((hf117 _ _ (ne_n o_me en117)).trans rfl), c120, SB_m c118 (by omega), c119, trivial⟩
          · have _q := h116
            refine jx_ld (pc_q := 42) (l_q := L58) (st_q := [.int (i32 (bt sg (8 * k)))]) rfl (jl_iload g63) ?_
            refine jx_ar (pc_q := 44) (st_q := [.int (i32 (126)), .int (i32 (bt sg (8 * k)))]) rfl rfl rfl rfl ?_
            refine jx_icmp_le (pc_q := 47) (tg := 57) rfl rfl rfl (by omega) (by omega) (by decide) (by decide) (fun h122 => ?_) (fun h122 => ?_)
            · have _q := h122
              refine jx_ld (pc_q := 58) (l_q := L58) (st_q := [.int (i32 (mr))]) rfl (jl_iloadn g61) ?_
              refine jx_ld (pc_q := 60) (l_q := L58) (st_q := [.int (i32 (bt sg (8 * k))), .int (i32 (mr))]) rfl (jl_iload g63) ?_
              refine jx_if_ne (pc_q := 63) (tg := 67) rfl rfl rfl (by omega) (by omega) (fun h123 => ?_) (fun h123 => ?_)
              · have _q := h123
                refine jx_ar (pc_q := 68) (st_q := [.int (i32 (1)), .int (i32 (mr))]) rfl rfl rfl rfl ?_
                refine jx_add (pc_q := 69) rfl rfl ?_
                refine jx_ld (pc_q := 70) (l_q := jSto1 L58 2 (.int (i32 ((mr + 1))))) (st_q := []) rfl rfl ?_
                obtain ⟨L124, eL124⟩ : ∃ q : jL, q = jSto1 L58 2 (.int (i32 ((mr + 1)))) := ⟨_, rfl⟩
                rw [← eL124]
                have g125 : jGet L124 0 = some (rv (me)) := eL124 ▸ jg_nr (by decide) g59
                have g126 : jGet L124 1 = some (.int (i32 (sg))) := eL124 ▸ jg_ne (by decide) g60 rfl
                have g127 : jGet L124 3 = some (.int (i32 (k))) := eL124 ▸ jg_ne (by decide) g62 rfl
                have g128 : jGet L124 4 = some (.int (i32 (bt sg (8 * k)))) := eL124 ▸ jg_ne (by decide) g63 rfl
                have g129 : jGet L124 2 = some (.int (i32 ((mr + 1)))) := eL124 ▸ jg_eq
                clear eL124
                refine jx_inc (pc_q := 73) (l_q := jSto1 L124 3 (.int (i32 (k + (1))))) (x := k) rfl g127 (by decide) rfl rfl ?_
                obtain ⟨L130, eL130⟩ : ∃ q : jL, q = jSto1 L124 3 (.int (i32 ((k + (1))))) := ⟨_, rfl⟩
                rw [← eL130]
                have g131 : jGet L130 0 = some (rv (me)) := eL130 ▸ jg_nr (by decide) g125
                have g132 : jGet L130 1 = some (.int (i32 (sg))) := eL130 ▸ jg_ne (by decide) g126 rfl
                have g133 : jGet L130 4 = some (.int (i32 (bt sg (8 * k)))) := eL130 ▸ jg_ne (by decide) g128 rfl
                have g134 : jGet L130 2 = some (.int (i32 ((mr + 1)))) := eL130 ▸ jg_ne (by decide) g129 rfl
                have g135 : jGet L130 3 = some (.int (i32 ((k + (1))))) := eL130 ▸ jg_eq
                clear eL130
                refine jx_go (tg := 4) rfl rfl ?_
                exact ih _ (by omega) L130 ((mr + 1)) ((k + (1))) rfl g131 g132 g134 g135 (by omega) (by omega) (by omega) (by omega) (by omega) (by omega) (by omega) (by omega) cx_NP (SB_m cx_SB (by omega)) cx_T3
              · have _q := h123
                refine jx_ar (pc_q := 64) (st_q := [.int (i32 (0)), .int (i32 (mr))]) rfl rfl rfl rfl ?_
                refine jx_go (tg := 68) rfl rfl ?_
                refine jx_add (pc_q := 69) rfl rfl ?_
                refine jx_ld (pc_q := 70) (l_q := jSto1 L58 2 (.int (i32 ((mr + 0))))) (st_q := []) rfl rfl ?_
                obtain ⟨L136, eL136⟩ : ∃ q : jL, q = jSto1 L58 2 (.int (i32 ((mr + 0)))) := ⟨_, rfl⟩
                rw [← eL136]
                have g137 : jGet L136 0 = some (rv (me)) := eL136 ▸ jg_nr (by decide) g59
                have g138 : jGet L136 1 = some (.int (i32 (sg))) := eL136 ▸ jg_ne (by decide) g60 rfl
                have g139 : jGet L136 3 = some (.int (i32 (k))) := eL136 ▸ jg_ne (by decide) g62 rfl
                have g140 : jGet L136 4 = some (.int (i32 (bt sg (8 * k)))) := eL136 ▸ jg_ne (by decide) g63 rfl
                have g141 : jGet L136 2 = some (.int (i32 ((mr + 0)))) := eL136 ▸ jg_eq
                clear eL136
                refine jx_inc (pc_q := 73) (l_q := jSto1 L136 3 (.int (i32 (k + (1))))) (x := k) rfl g139 (by decide) rfl rfl ?_
                obtain ⟨L142, eL142⟩ : ∃ q : jL, q = jSto1 L136 3 (.int (i32 ((k + (1))))) := ⟨_, rfl⟩
                rw [← eL142]
                have g143 : jGet L142 0 = some (rv (me)) := eL142 ▸ jg_nr (by decide) g137
                have g144 : jGet L142 1 = some (.int (i32 (sg))) := eL142 ▸ jg_ne (by decide) g138 rfl
                have g145 : jGet L142 4 = some (.int (i32 (bt sg (8 * k)))) := eL142 ▸ jg_ne (by decide) g140 rfl
                have g146 : jGet L142 2 = some (.int (i32 ((mr + 0)))) := eL142 ▸ jg_ne (by decide) g141 rfl
                have g147 : jGet L142 3 = some (.int (i32 ((k + (1))))) := eL142 ▸ jg_eq
                clear eL142
                refine jx_go (tg := 4) rfl rfl ?_
                exact ih _ (by omega) L142 ((mr + 0)) ((k + (1))) rfl g143 g144 g146 g147 (by omega) (by omega) (by omega) (by omega) (by omega) (by omega) (by omega) (by omega) cx_NP (SB_m cx_SB (by omega)) cx_T3
            · have _q := h122
              refine cx_thr2 (c := 13) rfl rfl rfl rfl ⟨by decide, by decide, (Nat.le_of_ble_eq_true rfl), rfl, rfl, rfl⟩ rfl rfl hC (fun x148 m148 tg148 ln148 F148 en148 em148 ho148 hx148 hC148 hf148 hs148 => ?_)
              have ex148 : 64 + (m : Int) ≤ (x148 : Int) := by have := hX0.1; omega
              have c149 : SB m148 tg148 F148 (kk) := SB_n cx_SB hC.1 hx148 en148 em148 hf148 ho148.2 (Or.inl (by decide))
              have c150 : T3 m148 tg148 := T3_n cx_T3 hC.1 hx148 en148 em148 ho148.2 (by decide)
              have c151 : NP m148 tg148 F148 := NP_nn hC cx_NP hx148 en148 em148 (fun b i ob => hf148 b i (ne_n ob en148)) (fun w => absurd (ho148.2.symm.trans w) (by decide)) (fun w => absurd (ho148.2.symm.trans w) (by decide)) (fun w => absurd (ho148.2.symm.trans w) (by decide))
              have lm152 := hx148.1
              exact Or.inr ⟨m148, tg148, ln148, F148, x148, rfl, rfl, Ex_t hX0 hx148, hC148, Fq_n hM0 hf148 ex148, ho148.1, Or.inl (ho148.2), by omega, by omega, (Or.inl ⟨ho148.2, by omega⟩), ((hf148 _ _ (ne_n o_me en148)).trans rfl), c151, SB_m c149 (by omega), c150, trivial⟩
set_option maxRecDepth 20000 in
set_option maxHeartbeats 4000000 in
theorem k_LY_put {X : jX} {dd : Nat} {R : Nat → jC} {m : Nat} {tg ln : Int → Int} {F : Int → Int → Int} {kk : Int} {me sg : Int} (hd : 1 ≤ dd) (hC : HC 0 m tg ln F) (o_me : own m me) (t_me : tg me = 1) (h_sg : (-2147483648 : Int) ≤ sg ∧ sg ≤ 2147483647) (c_NP : NP m tg F) (c_SB : SB m tg F (kk)) (c_T3 : T3 m tg) : wk X dd 20 [rv me, .int (i32 sg)] (cV R m tg ln F) (fun o V_q => (∃ (m_q : Nat) (tg_q ln_q : Int → Int) (F_q : Int → Int → Int) (r : Int), V_q = cV R m_q tg_q ln_q F_q ∧ o = .inl (some (.int (i32 r))) ∧ Ex m tg ln m_q tg_q ln_q ∧ HC 0 m_q tg_q ln_q F_q ∧ Fq 0 [(1, 1), (20, -5)] m tg F F_q ∧ (-2147483648 ≤ r ∧ r ≤ 2147483647) ∧ (szD m_q tg_q ln_q = szD m tg ln) ∧ ((m_q : Int) = (m : Int)) ∧ (r = F_q me (1 : Int)) ∧ (F_q me (1 : Int) = F me (1 : Int) + mo sg 4) ∧ (F_q me (1 : Int) ≤ 3000) ∧ (nb sg 4 = 0) ∧ (NP m_q tg_q F_q) ∧ (SB m_q tg_q F_q (kk)) ∧ (T3 m_q tg_q) ∧ True) ∨ (∃ (m_q : Nat) (tg_q ln_q : Int → Int) (F_q : Int → Int → Int) (x : Nat), V_q = cV R m_q tg_q ln_q F_q ∧ o = .inr x ∧ Ex m tg ln m_q tg_q ln_q ∧ HC 0 m_q tg_q ln_q F_q ∧ Fq 0 [(1, 1), (20, -5)] m tg F F_q ∧ (own m_q (x : Int)) ∧ (tg_q (x : Int) = 14 ∨ tg_q (x : Int) = 15) ∧ (szD m_q tg_q ln_q = szD m tg ln + 25) ∧ ((m_q : Int) = (m : Int) + 1) ∧ ((tg_q (x : Int) = 14 ∧ 1 ≤ nb sg 4) ∨ (tg_q (x : Int) = 15 ∧ nb sg 4 = 0 ∧ 3000 < F me (1 : Int) + mo sg 4)) ∧ (F_q me (1 : Int) = F me (1 : Int)) ∧ (NP m_q tg_q F_q) ∧ (SB m_q tg_q F_q (kk)) ∧ (T3 m_q tg_q) ∧ True)) := by
  obtain ⟨d, rfl⟩ : ∃ d, dd = d + 1 := ⟨dd - 1, by omega⟩
  refine wk_of (e := jm20) rfl (by rw [jS_r, jS_i, jS_0]; exact Nat.le_of_ble_eq_true rfl) ?_
  rw [la_r, la_i, la_0]
  show wj X d jm20 (0, [(0, rv (me)), (1, .int (i32 (sg)))], [], cV R m tg ln F) _
  have hM0 : Fq 0 [(1, 1), (20, -5)] m tg F F := Fq_r
  have hX0 : Ex m tg ln m tg ln := Ex_r
  obtain ⟨L0, eL0⟩ : ∃ q : jL, q = [(0, rv (me)), (1, .int (i32 (sg)))] := ⟨_, rfl⟩
  rw [← eL0]
  have g153 : jGet L0 0 = some (rv (me)) := eL0 ▸ (rfl : jGet [(0, rv (me)), (1, .int (i32 (sg)))] 0 = some (rv (me)))
  have g154 : jGet L0 1 = some (.int (i32 (sg))) := eL0 ▸ (rfl : jGet [(0, rv (me)), (1, .int (i32 (sg)))] 1 = some (.int (i32 (sg))))
  clear eL0
  have m0 := mo_0 (sg := sg)
  have n0 := nb_0 (sg := sg)
  refine jx_ar (pc_q := 1) (st_q := [.int (i32 (0))]) rfl rfl rfl rfl ?_
  refine jx_ld (pc_q := 2) (l_q := jSto1 L0 2 (.int (i32 (0)))) (st_q := []) rfl rfl ?_
  obtain ⟨L155, eL155⟩ : ∃ q : jL, q = jSto1 L0 2 (.int (i32 (0))) := ⟨_, rfl⟩
  rw [← eL155]
  have g156 : jGet L155 0 = some (rv (me)) := eL155 ▸ jg_nr (by decide) g153
  have g157 : jGet L155 1 = some (.int (i32 (sg))) := eL155 ▸ jg_ne (by decide) g154 rfl
  have g158 : jGet L155 2 = some (.int (i32 (0))) := eL155 ▸ jg_eq
  clear eL155
  refine jx_ar (pc_q := 3) (st_q := [.int (i32 (0))]) rfl rfl rfl rfl ?_
  refine jx_ld (pc_q := 4) (l_q := jSto1 L155 3 (.int (i32 (0)))) (st_q := []) rfl rfl ?_
  obtain ⟨L159, eL159⟩ : ∃ q : jL, q = jSto1 L155 3 (.int (i32 (0))) := ⟨_, rfl⟩
  rw [← eL159]
  have g160 : jGet L159 0 = some (rv (me)) := eL159 ▸ jg_nr (by decide) g156
  have g161 : jGet L159 1 = some (.int (i32 (sg))) := eL159 ▸ jg_ne (by decide) g157 rfl
  have g162 : jGet L159 2 = some (.int (i32 (0))) := eL159 ▸ jg_ne (by decide) g158 rfl
  have g163 : jGet L159 3 = some (.int (i32 (0))) := eL159 ▸ jg_eq
  clear eL159
  exact k_LY_put_at_4 (X := X) (d := d) (R := R) (m := m) (tg := tg) (ln := ln) (F := F) (kk := kk) (me := me) (sg := sg) (hd := hd) (hC := hC) (o_me := o_me) (t_me := t_me) (h_sg := h_sg) (c_NP := c_NP) (c_SB := c_SB) (c_T3 := c_T3) _ L159 (0) (0) rfl g160 g161 g162 g163 (by omega) (by omega) (by omega) (by omega) (by omega) (by omega) (by omega) (by omega) c_NP (SB_m c_SB (by omega)) c_T3
