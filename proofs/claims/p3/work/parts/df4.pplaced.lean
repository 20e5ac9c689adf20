set_option maxRecDepth 20000 in
set_option maxHeartbeats 4000000 in
theorem k_LParser_readPlaced_at_69 {X : jX} {d : Nat} {R : Nat → jC} {m : Nat} {tg ln : Int → Int} {F : Int → Int → Int} {cr : Int} {me : Int} (hd : 202 ≤ d + 1) (hC : HC 0 m tg ln F) {sc pg : Int} (o_sc : own m sc) (t_sc : tg sc = 11) (e_sc : F me (1 : Int) = sc) (o_pg : own m pg) (t_pg : tg pg = 10) (e_pg : F me (0 : Int) = pg) (o_me : own m me) (t_me : tg me = 9) (p_0 : F sc (8 : Int) + 2 * tz (F sc (15 : Int)) ≤ F sc (7 : Int) + 1) (p_1 : F sc (8 : Int) + 2 * lz (F sc (14 : Int)) ≤ F sc (7 : Int) + 1) (c_NP : NP m tg F) (c_CR : CR m tg F (F pg (3 : Int)) (cr)) : ∀ (mm : Nat) (L : jL) (mx : Nat) (tgx lnx : Int → Int) (Fx : Int → Int → Int) (k : Int), (3000 - k).toNat = mm → jGet L 0 = some (rv (me)) → jGet L 1 = some (.int (i32 k)) → Ex m tg ln mx tgx lnx → HC 0 mx tgx lnx Fx → Fq 0 [(7, 15), (9, 2), (9, 3), (10, 0), (10, 1), (10, 2), (10, 7), (10, 8), (10, 9), (11, 8), (11, 12), (11, 13), (11, 14), (11, 15), (11, 16), (11, 17), (11, 18), (24, -5), (26, -5)] m tg F Fx → ((-2147483648 : Int) ≤ k ∧ k ≤ 2147483647) → (Fx sc (8 : Int) + 2 * tz (Fx sc (15 : Int)) ≤ F sc (7 : Int) + 1) → (Fx sc (8 : Int) + 2 * lz (Fx sc (14 : Int)) ≤ F sc (7 : Int) + 1) → (Fx pg (9 : Int) ≤ F pg (9 : Int) + ((mx : Int) - (m : Int))) → (F sc (8 : Int) ≤ Fx sc (8 : Int)) → (szD mx tgx lnx = szD m tg ln + 25 * ((mx : Int) - (m : Int))) → ((mx : Int) ≤ (m : Int) + (Fx sc (8 : Int) - F sc (8 : Int)) + (0)) → (0 ≤ k) → (k ≤ 3000) → (3 + 4 * k ≤ Fx sc (8 : Int) - F sc (8 : Int)) → (NP mx tgx Fx) → (NM m mx tgx) → (CR mx tgx Fx (F pg (3 : Int)) (cr + k)) → wj X d jm175 (69, L, [], cV R mx tgx lnx Fx) (fun o V_q => (∃ (m_q : Nat) (tg_q ln_q : Int → Int) (F_q : Int → Int → Int), V_q = cV R m_q tg_q ln_q F_q ∧ o = .inl none ∧ Ex m tg ln m_q tg_q ln_q ∧ HC 0 m_q tg_q ln_q F_q ∧ Fq 0 [(7, 15), (9, 2), (9, 3), (10, 0), (10, 1), (10, 2), (10, 7), (10, 8), (10, 9), (11, 8), (11, 12), (11, 13), (11, 14), (11, 15), (11, 16), (11, 17), (11, 18), (24, -5), (26, -5)] m tg F F_q ∧ (F_q sc (8 : Int) + 2 * tz (F_q sc (15 : Int)) ≤ F sc (7 : Int) + 1) ∧ (F_q sc (8 : Int) + 2 * lz (F_q sc (14 : Int)) ≤ F sc (7 : Int) + 1) ∧ (F sc (8 : Int) ≤ F_q sc (8 : Int)) ∧ (szD m_q tg_q ln_q = szD m tg ln + 25 * ((m_q : Int) - (m : Int))) ∧ ((m_q : Int) ≤ (m : Int) + (F_q sc (8 : Int) - F sc (8 : Int)) + (0)) ∧ (F_q pg (9 : Int) ≤ F pg (9 : Int) + ((m_q : Int) - (m : Int))) ∧ (NP m_q tg_q F_q) ∧ (NM m m_q tg_q) ∧ (CR m_q tg_q F_q (F pg (3 : Int)) (cr + (F_q sc (8 : Int) - F sc (8 : Int) - 3) / 4)) ∧ True) ∨ (∃ (m_q : Nat) (tg_q ln_q : Int → Int) (F_q : Int → Int → Int) (x : Nat), V_q = cV R m_q tg_q ln_q F_q ∧ o = .inr x ∧ Ex m tg ln m_q tg_q ln_q ∧ HC 0 m_q tg_q ln_q F_q ∧ Fq 0 [(7, 15), (9, 2), (9, 3), (10, 0), (10, 1), (10, 2), (10, 7), (10, 8), (10, 9), (11, 8), (11, 12), (11, 13), (11, 14), (11, 15), (11, 16), (11, 17), (11, 18), (24, -5), (26, -5)] m tg F F_q ∧ (own m_q (x : Int)) ∧ (tg_q (x : Int) = 16) ∧ (F_q pg (0 : Int) ≠ 0) ∧ (szD m_q tg_q ln_q = szD m tg ln + 25 * ((m_q : Int) - (m : Int))) ∧ ((m_q : Int) ≤ (m : Int) + (F_q sc (8 : Int) - F sc (8 : Int)) + (3)) ∧ (F_q sc (8 : Int) ≤ F sc (7 : Int) + 1) ∧ (NP m_q tg_q F_q) ∧ (NM m m_q tg_q) ∧ True)) := by
  intro mm
  induction mm using Nat.strongRecOn with
  | ind mm ih =>
    intro L mx tgx lnx Fx k hmm gL_0 gL_1 hXx hCx hMx rx_k iv_0 iv_1 iv_2 iv_3 iv_4 iv_5 iv_6 iv_7 iv_8 cx_NP cx_NM cx_CR
    have hX0 : Ex m tg ln m tg ln := Ex_r
    have lm1 := hXx.1
    have ho2 : own mx (me) ∧ tgx (me) = 9 := Ex_o hXx ⟨o_me, t_me⟩
    have ho3 : own mx (sc) ∧ tgx (sc) = 11 := Ex_o hXx ⟨o_sc, t_sc⟩
    have ho4 : own mx (pg) ∧ tgx (pg) = 10 := Ex_o hXx ⟨o_pg, t_pg⟩
    have hX5 := Ex_t hX0 hXx
    have tb0 := tz_b (F sc (15 : Int))
    have lb0 := lz_b (F sc (14 : Int))
    have tb1 := tz_b (Fx sc (15 : Int))
    have lb1 := lz_b (Fx sc (14 : Int))
    have ob0 : (0 : Int) ≤ F me (3 : Int) ∧ F me (3 : Int) ≤ 8 := HC_i (c := 8) (q := 3) hC o_me t_me (by decide) rfl
    have tp0 : F me (2 : Int) < 64 + (m : Int) := by
      have z : F me (2 : Int) = 0 ∨ (own m (F me (2 : Int)) ∧ tg (F me (2 : Int)) = 7) := HC_r (c := 8) (q := 2) hC o_me t_me (by decide) rfl
      rcases z with w | w
      · omega
      · exact w.1.2.1
    refine jx_ld (pc_q := 70) (l_q := L) (st_q := [.int (i32 (k))]) rfl (jl_iloadn gL_1) ?_
    refine jx_ar (pc_q := 73) (st_q := [.int (i32 (3000)), .int (i32 (k))]) rfl rfl rfl rfl ?_
    refine jx_icmp_ge (pc_q := 76) (tg := 203) rfl rfl rfl (by omega) (by omega) (by decide) (by decide) (fun h6 => ?_) (fun h6 => ?_)
    · have _q := h6
      refine jx_rt (v := none) rfl rfl rfl rfl rfl rfl ?_
      have q7 : Fx (sc) (7 : Int) = F (sc) (7 : Int) := (show Fx (sc) (7 : Int) = F (sc) (7 : Int) from hMx _ _ o_sc (own_z o_sc) (by rw [t_sc]; rfl))
      have q8 := tz_b (Fx (sc) (15 : Int))
      have q9 := lz_b (Fx (sc) (14 : Int))
      exact Or.inl ⟨mx, tgx, lnx, Fx, rfl, rfl, hXx, hCx, hMx, by omega, by omega, by omega, by omega, by omega, by omega, cx_NP, cx_NM, CR_m cx_CR (by omega), trivial⟩
    · have _q := h6
      refine jx_ld (pc_q := 77) (l_q := L) (st_q := [rv (me)]) rfl (jl_rvn gL_0) ?_
      refine cx_gr (pc_q := 80) (c := 8) (q := 1) (v := sc) rfl rfl (by decide) (by decide) rfl rfl ho2.1 ho2.2 ((show Fx (me) (1 : Int) = F (me) (1 : Int) from hMx _ _ o_me (own_z o_me) (by rw [t_me]; rfl)).trans e_sc) ?_
      refine cx_gi (pc_q := 83) (c := 10) (q := 14) (v := Fx (sc) (14 : Int)) rfl rfl (by decide) (by decide) (Or.inl rfl) rfl ho3.1 ho3.2 rfl ?_
      have b10 : (-2 : Int) ≤ Fx (sc) (14 : Int) ∧ Fx (sc) (14 : Int) ≤ 15 := by have z := HC_i (c := 10) (q := 14) hCx ho3.1 ho3.2 (by decide) rfl; rw [show Fx (sc) ((14 : Nat) : Int) = Fx (sc) (14 : Int) from rfl] at z; exact z
      refine jx_ar (pc_q := 84) (st_q := [.int (i32 (1)), .int (i32 (Fx (sc) (14 : Int)))]) rfl rfl rfl rfl ?_
      refine jx_icmp_ne (pc_q := 87) (tg := 203) rfl rfl rfl (by omega) (by omega) (by decide) (by decide) (fun h11 => ?_) (fun h11 => ?_)
      · have _q := h11
        refine jx_rt (v := none) rfl rfl rfl rfl rfl rfl ?_
        have q12 : Fx (sc) (7 : Int) = F (sc) (7 : Int) := (show Fx (sc) (7 : Int) = F (sc) (7 : Int) from hMx _ _ o_sc (own_z o_sc) (by rw [t_sc]; rfl))
        have q13 := tz_b (Fx (sc) (15 : Int))
        have q14 := lz_b (Fx (sc) (14 : Int))
        exact Or.inl ⟨mx, tgx, lnx, Fx, rfl, rfl, hXx, hCx, hMx, by omega, by omega, by omega, by omega, by omega, by omega, cx_NP, cx_NM, CR_m cx_CR (by omega), trivial⟩
      · have _q := h11
        have t15 : lz (Fx (sc) (14 : Int)) = 1 := lz_p (by omega)
        refine jx_ld (pc_q := 88) (l_q := L) (st_q := [rv (me)]) rfl (jl_rvn gL_0) ?_
        refine jx_ar (pc_q := 90) (st_q := [.int (i32 (29)), rv (me)]) rfl rfl rfl rfl ?_
        have q16 := tz_b (Fx (sc) (15 : Int))
        have q17 : Fx (sc) (7 : Int) = F (sc) (7 : Int) := (show Fx (sc) (7 : Int) = F (sc) (7 : Int) from hMx _ _ o_sc (own_z o_sc) (by rw [t_sc]; rfl))
        have q18 := lz_b (Fx (sc) (14 : Int))
        refine cx_vi (c := 8) (a := me) (st := []) (as := [.int (i32 (29))]) rfl rfl rfl ho2.1 ho2.2 (by decide) rfl ⟨rfl, rfl, (Nat.le_of_ble_eq_true rfl)⟩ rfl (k_LParser_expect (dd := d) (R := R) (m := mx) (tg := tgx) (ln := lnx) (F := Fx) (me := me) (tk := 29) (hd := by omega) (hC := hCx) (o_me := ho2.1) (t_me := ho2.2) (h_tk := by omega) (sc := sc) (pg := pg) (o_sc := ho3.1) (t_sc := ho3.2) (e_sc := ((show Fx (me) (1 : Int) = F (me) (1 : Int) from hMx _ _ o_me (own_z o_me) (by rw [t_me]; rfl)).trans e_sc)) (o_pg := ho4.1) (t_pg := ho4.2) (e_pg := ((show Fx (me) (0 : Int) = F (me) (0 : Int) from hMx _ _ o_me (own_z o_me) (by rw [t_me]; rfl)).trans e_pg)) (p_0 := by omega) (p_1 := by omega) (p_2 := by omega) (p_3 := by omega) (c_NP := cx_NP)) (fun o V_q hq => ?_)
        obtain ⟨m19, tg19, ln19, F20, rfl, rfl, hx21, hC22, hM23, p24, p25, p26, p27, p28, p29, p30, c31, c32, -⟩ | ⟨m33, tg33, ln33, F33, x33, rfl, rfl, hx33, hC33, hM33, ho33, ht33, p34, p35, p36, p37, c38, c39, -⟩ := hq
        rotate_left
        ·
          have c40 : NM m m33 tg33 := NM_t cx_NM hx33 c39
          have lm41 := hx33.1
          refine Or.inr (Or.inr (Or.inr ⟨_, _, rfl, cx_exc (c := 15) ho33 ht33 (by decide), rfl, ?_⟩))
          have q42 : Fx (sc) (7 : Int) = F (sc) (7 : Int) := (show Fx (sc) (7 : Int) = F (sc) (7 : Int) from hMx _ _ o_sc (own_z o_sc) (by rw [t_sc]; rfl))
          exact Or.inr ⟨m33, tg33, ln33, F33, x33, rfl, rfl, Ex_t hXx hx33, hC33, Fq_t (ln := ln) (ln1 := lnx) hMx hXx hM33 (by decide) (Or.inl rfl), (And.intro ho33 ht33).1, (And.intro ho33 ht33).2, by omega, by omega, by omega, by omega, c38, c40, trivial⟩
        have hM43 : Fq 0 [(7, 15), (9, 2), (9, 3), (10, 0), (10, 1), (10, 2), (10, 7), (10, 8), (10, 9), (11, 8), (11, 12), (11, 13), (11, 14), (11, 15), (11, 16), (11, 17), (11, 18), (24, -5), (26, -5)] m tg F F20 := Fq_t (ln := ln) (ln1 := lnx) hMx hXx hM23 (by decide) (Or.inl rfl)
        have lm44 := hx21.1
        have ho45 : own m19 (me) ∧ tg19 (me) = 9 := Ex_o hx21 ⟨ho2.1, ho2.2⟩
        have ho46 : own m19 (sc) ∧ tg19 (sc) = 11 := Ex_o hx21 ⟨ho3.1, ho3.2⟩
        have ho47 : own m19 (pg) ∧ tg19 (pg) = 10 := Ex_o hx21 ⟨ho4.1, ho4.2⟩
        have hX48 := Ex_t hXx hx21
        have c49 : NM m m19 tg19 := NM_t cx_NM hx21 c32
        have c50 : CR m19 tg19 F20 (F pg (3 : Int)) (cr + k) := CR_x cx_CR hx21 hM23 rfl
        refine Or.inl ⟨rfl, ?_⟩
        refine jx_ld (pc_q := 94) (l_q := L) (st_q := [rv (me)]) rfl (jl_rvn gL_0) ?_
        refine cx_gr (pc_q := 97) (c := 8) (q := 1) (v := sc) rfl rfl (by decide) (by decide) rfl rfl ho45.1 ho45.2 (((show F20 (me) (1 : Int) = Fx (me) (1 : Int) from hM23 _ _ ho2.1 (own_z ho2.1) (by rw [ho2.2]; rfl)).trans (show Fx (me) (1 : Int) = F (me) (1 : Int) from hMx _ _ o_me (own_z o_me) (by rw [t_me]; rfl))).trans e_sc) ?_
        refine cx_gi (pc_q := 100) (c := 10) (q := 17) (v := F20 (sc) (17 : Int)) rfl rfl (by decide) (by decide) (Or.inl rfl) rfl ho46.1 ho46.2 rfl ?_
        have b51 : (-2147483648 : Int) ≤ F20 (sc) (17 : Int) ∧ F20 (sc) (17 : Int) ≤ 2147483647 := by have z := HC_i (c := 10) (q := 17) hC22 ho46.1 ho46.2 (by decide) rfl; rw [show F20 (sc) ((17 : Nat) : Int) = F20 (sc) (17 : Int) from rfl] at z; exact z
        refine jx_if_lt (pc_q := 103) (tg := 137) rfl rfl rfl (by omega) (by omega) (fun h52 => ?_) (fun h52 => ?_)
        · have _q := h52
          refine jx_ar (pc_q := 138) (st_q := [.int (i32 (0))]) rfl rfl rfl rfl ?_
          refine jx_ld (pc_q := 139) (l_q := jSto1 L 2 (.int (i32 (0)))) (st_q := []) rfl rfl ?_
          obtain ⟨L53, eL53⟩ : ∃ q : jL, q = jSto1 L 2 (.int (i32 (0))) := ⟨_, rfl⟩
          rw [← eL53]
          have g54 : jGet L53 0 = some (rv (me)) := eL53 ▸ jg_nr (by decide) gL_0
          have g55 : jGet L53 1 = some (.int (i32 (k))) := eL53 ▸ jg_ne (by decide) gL_1 rfl
          have g56 : jGet L53 2 = some (.int (i32 (0))) := eL53 ▸ jg_eq
          clear eL53
          refine jx_ld (pc_q := 140) (l_q := L53) (st_q := [rv (me)]) rfl (jl_rvn g54) ?_
          refine cx_gr (pc_q := 143) (c := 8) (q := 1) (v := sc) rfl rfl (by decide) (by decide) rfl rfl ho45.1 ho45.2 (((show F20 (me) (1 : Int) = Fx (me) (1 : Int) from hM23 _ _ ho2.1 (own_z ho2.1) (by rw [ho2.2]; rfl)).trans (show Fx (me) (1 : Int) = F (me) (1 : Int) from hMx _ _ o_me (own_z o_me) (by rw [t_me]; rfl))).trans e_sc) ?_
          refine cx_gi (pc_q := 146) (c := 10) (q := 15) (v := F20 (sc) (15 : Int)) rfl rfl (by decide) (by decide) (Or.inl rfl) rfl ho46.1 ho46.2 rfl ?_
          have b57 : (-2147483648 : Int) ≤ F20 (sc) (15 : Int) ∧ F20 (sc) (15 : Int) ≤ 2147483647 := by have z := HC_i (c := 10) (q := 15) hC22 ho46.1 ho46.2 (by decide) rfl; rw [show F20 (sc) ((15 : Nat) : Int) = F20 (sc) (15 : Int) from rfl] at z; exact z
          refine jx_ar (pc_q := 147) (st_q := [.int (i32 (3)), .int (i32 (F20 (sc) (15 : Int)))]) rfl rfl rfl rfl ?_
          refine jx_icmp_ne (pc_q := 150) (tg := 158) rfl rfl rfl (by omega) (by omega) (by decide) (by decide) (fun h58 => ?_) (fun h58 => ?_)
          · have _q := h58
            refine jx_ld (pc_q := 159) (l_q := L53) (st_q := [rv (me)]) rfl (jl_rvn g54) ?_
            refine jx_ar (pc_q := 160) (st_q := [.int (i32 (0)), rv (me)]) rfl rfl rfl rfl ?_
            refine jx_ar (pc_q := 161) (st_q := [.int (i32 (5)), .int (i32 (0)), rv (me)]) rfl rfl rfl rfl ?_
            have q59 := tz_b (F20 (sc) (15 : Int))
            have q60 : F20 (sc) (7 : Int) = F (sc) (7 : Int) := ((show F20 (sc) (7 : Int) = Fx (sc) (7 : Int) from hM23 _ _ ho3.1 (own_z ho3.1) (by rw [ho3.2]; rfl)).trans (show Fx (sc) (7 : Int) = F (sc) (7 : Int) from hMx _ _ o_sc (own_z o_sc) (by rw [t_sc]; rfl)))
            have q61 := lz_b (F20 (sc) (14 : Int))
            have q62 : F20 (pg) (9 : Int) = Fx (pg) (9 : Int) := (show F20 (pg) (9 : Int) = Fx (pg) (9 : Int) from hM23 _ _ ho4.1 (own_z ho4.1) (by rw [ho4.2]; rfl))
            refine cx_vi (c := 8) (a := me) (st := []) (as := [.int (i32 (0)), .int (i32 (5))]) rfl rfl rfl ho45.1 ho45.2 (by decide) rfl ⟨rfl, rfl, (Nat.le_of_ble_eq_true rfl)⟩ rfl (k_LParser_readNumber (dd := d) (R := R) (m := m19) (tg := tg19) (ln := ln19) (F := F20) (me := me) (le := 0) (mo := 5) (hd := by omega) (hC := hC22) (o_me := ho45.1) (t_me := ho45.2) (h_le := by omega) (h_mo := by omega) (sc := sc) (pg := pg) (o_sc := ho46.1) (t_sc := ho46.2) (e_sc := (((show F20 (me) (1 : Int) = Fx (me) (1 : Int) from hM23 _ _ ho2.1 (own_z ho2.1) (by rw [ho2.2]; rfl)).trans (show Fx (me) (1 : Int) = F (me) (1 : Int) from hMx _ _ o_me (own_z o_me) (by rw [t_me]; rfl))).trans e_sc)) (o_pg := ho47.1) (t_pg := ho47.2) (e_pg := (((show F20 (me) (0 : Int) = Fx (me) (0 : Int) from hM23 _ _ ho2.1 (own_z ho2.1) (by rw [ho2.2]; rfl)).trans (show Fx (me) (0 : Int) = F (me) (0 : Int) from hMx _ _ o_me (own_z o_me) (by rw [t_me]; rfl))).trans e_pg)) (p_0 := by omega) (p_1 := by omega) (p_2 := by omega) (c_NP := c31)) (fun o V_q hq => ?_)
            obtain ⟨m63, tg63, ln63, F64, r65, rfl, rfl, hx66, hC67, hM68, b69, p70, p71, p72, p73, p74, p75, p76, p77, p78, p79, c80, c81, -⟩ | ⟨m82, tg82, ln82, F82, x82, rfl, rfl, hx82, hC82, hM82, ho82, ht82, p83, p84, p85, p86, c87, c88, -⟩ := hq
            rotate_left
            ·
              have c89 : NM m m82 tg82 := NM_t c49 hx82 c88
              have lm90 := hx82.1
              refine Or.inr (Or.inr (Or.inr ⟨_, _, rfl, cx_exc (c := 15) ho82 ht82 (by decide), rfl, ?_⟩))
              have q91 : F20 (sc) (7 : Int) = F (sc) (7 : Int) := q60
              exact Or.inr ⟨m82, tg82, ln82, F82, x82, rfl, rfl, Ex_t hX48 hx82, hC82, Fq_t (ln := ln) (ln1 := ln19) hM43 hX48 hM82 (by decide) (Or.inl rfl), (And.intro ho82 ht82).1, (And.intro ho82 ht82).2, by omega, by omega, by omega, by omega, c87, c89, trivial⟩
            have hM92 : Fq 0 [(7, 15), (9, 2), (9, 3), (10, 0), (10, 1), (10, 2), (10, 7), (10, 8), (10, 9), (11, 8), (11, 12), (11, 13), (11, 14), (11, 15), (11, 16), (11, 17), (11, 18), (24, -5), (26, -5)] m tg F F64 := Fq_t (ln := ln) (ln1 := ln19) hM43 hX48 hM68 (by decide) (Or.inl rfl)
            have lm93 := hx66.1
            have ho94 : own m63 (me) ∧ tg63 (me) = 9 := Ex_o hx66 ⟨ho45.1, ho45.2⟩
            have ho95 : own m63 (sc) ∧ tg63 (sc) = 11 := Ex_o hx66 ⟨ho46.1, ho46.2⟩
            have ho96 : own m63 (pg) ∧ tg63 (pg) = 10 := Ex_o hx66 ⟨ho47.1, ho47.2⟩
            have hX97 := Ex_t hX48 hx66
            have c98 : NM m m63 tg63 := NM_t c49 hx66 c81
            have c99 : CR m63 tg63 F64 (F pg (3 : Int)) (cr + k) := CR_x c50 hx66 hM68 rfl
            refine Or.inr (Or.inl ⟨_, rfl, ?_⟩)
            refine jx_ld (pc_q := 165) (l_q := jSto1 L53 3 (.int (i32 (r65)))) (st_q := []) rfl rfl ?_
            obtain ⟨L100, eL100⟩ : ∃ q : jL, q = jSto1 L53 3 (.int (i32 (r65))) := ⟨_, rfl⟩
            rw [← eL100]
            have g101 : jGet L100 0 = some (rv (me)) := eL100 ▸ jg_nr (by decide) g54
            have g102 : jGet L100 1 = some (.int (i32 (k))) := eL100 ▸ jg_ne (by decide) g55 rfl
            have g103 : jGet L100 2 = some (.int (i32 (0))) := eL100 ▸ jg_ne (by decide) g56 rfl
            have g104 : jGet L100 3 = some (.int (i32 (r65))) := eL100 ▸ jg_eq
            clear eL100
            refine jx_ld (pc_q := 166) (l_q := L100) (st_q := [rv (me)]) rfl (jl_rvn g101) ?_
            have q105 := tz_b (F64 (sc) (15 : Int))
            have q106 : F64 (sc) (7 : Int) = F (sc) (7 : Int) := ((show F64 (sc) (7 : Int) = F20 (sc) (7 : Int) from hM68 _ _ ho46.1 (own_z ho46.1) (by rw [ho46.2]; rfl)).trans q60)
            have q107 := lz_b (F64 (sc) (14 : Int))
            have q108 : F64 (pg) (9 : Int) = Fx (pg) (9 : Int) := ((show F64 (pg) (9 : Int) = F20 (pg) (9 : Int) from hM68 _ _ ho47.1 (own_z ho47.1) (by rw [ho47.2]; rfl)).trans q62)
            refine cx_vi (c := 8) (a := me) (st := []) (as := []) rfl rfl rfl ho94.1 ho94.2 (by decide) rfl ⟨rfl, rfl, (Nat.le_of_ble_eq_true rfl)⟩ rfl (k_LParser_endLine (dd := d) (R := R) (m := m63) (tg := tg63) (ln := ln63) (F := F64) (me := me) (hd := by omega) (hC := hC67) (o_me := ho94.1) (t_me := ho94.2) (sc := sc) (pg := pg) (o_sc := ho95.1) (t_sc := ho95.2) (e_sc := (((show F64 (me) (1 : Int) = F20 (me) (1 : Int) from hM68 _ _ ho45.1 (own_z ho45.1) (by rw [ho45.2]; rfl)).trans ((show F20 (me) (1 : Int) = Fx (me) (1 : Int) from hM23 _ _ ho2.1 (own_z ho2.1) (by rw [ho2.2]; rfl)).trans (show Fx (me) (1 : Int) = F (me) (1 : Int) from hMx _ _ o_me (own_z o_me) (by rw [t_me]; rfl)))).trans e_sc)) (o_pg := ho96.1) (t_pg := ho96.2) (e_pg := (((show F64 (me) (0 : Int) = F20 (me) (0 : Int) from hM68 _ _ ho45.1 (own_z ho45.1) (by rw [ho45.2]; rfl)).trans ((show F20 (me) (0 : Int) = Fx (me) (0 : Int) from hM23 _ _ ho2.1 (own_z ho2.1) (by rw [ho2.2]; rfl)).trans (show Fx (me) (0 : Int) = F (me) (0 : Int) from hMx _ _ o_me (own_z o_me) (by rw [t_me]; rfl)))).trans e_pg)) (p_0 := by omega) (p_1 := by omega) (p_2 := by omega) (c_NP := c80)) (fun o V_q hq => ?_)
            obtain ⟨m109, tg109, ln109, F110, rfl, rfl, hx111, hC112, hM113, p114, p115, p116, p117, p118, p119, p120, c121, c122, -⟩ | ⟨m123, tg123, ln123, F123, x123, rfl, rfl, hx123, hC123, hM123, ho123, ht123, p124, p125, p126, p127, c128, c129, -⟩ := hq
            rotate_left
            ·
              have c130 : NM m m123 tg123 := NM_t c98 hx123 c129
              have lm131 := hx123.1
              refine Or.inr (Or.inr (Or.inr ⟨_, _, rfl, cx_exc (c := 15) ho123 ht123 (by decide), rfl, ?_⟩))
              have q132 : F64 (sc) (7 : Int) = F (sc) (7 : Int) := q106
              exact Or.inr ⟨m123, tg123, ln123, F123, x123, rfl, rfl, Ex_t hX97 hx123, hC123, Fq_t (ln := ln) (ln1 := ln63) hM92 hX97 hM123 (by decide) (Or.inl rfl), (And.intro ho123 ht123).1, (And.intro ho123 ht123).2, by omega, by omega, by omega, by omega, c128, c130, trivial⟩
            have hM133 : Fq 0 [(7, 15), (9, 2), (9, 3), (10, 0), (10, 1), (10, 2), (10, 7), (10, 8), (10, 9), (11, 8), (11, 12), (11, 13), (11, 14), (11, 15), (11, 16), (11, 17), (11, 18), (24, -5), (26, -5)] m tg F F110 := Fq_t (ln := ln) (ln1 := ln63) hM92 hX97 hM113 (by decide) (Or.inl rfl)
            have lm134 := hx111.1
            have ho135 : own m109 (me) ∧ tg109 (me) = 9 := Ex_o hx111 ⟨ho94.1, ho94.2⟩
            have ho136 : own m109 (sc) ∧ tg109 (sc) = 11 := Ex_o hx111 ⟨ho95.1, ho95.2⟩
            have ho137 : own m109 (pg) ∧ tg109 (pg) = 10 := Ex_o hx111 ⟨ho96.1, ho96.2⟩
            have hX138 := Ex_t hX97 hx111
            have c139 : NM m m109 tg109 := NM_t c98 hx111 c122
            have c140 : CR m109 tg109 F110 (F pg (3 : Int)) (cr + k) := CR_x c99 hx111 hM113 rfl
            refine Or.inl ⟨rfl, ?_⟩
            refine jx_ld (pc_q := 170) (l_q := L100) (st_q := [rv (me)]) rfl (jl_rvn g101) ?_
            refine jx_ar (pc_q := 171) (st_q := [.int (i32 (2)), rv (me)]) rfl rfl rfl rfl ?_
            have q141 := tz_b (F110 (sc) (15 : Int))
            have q142 : F110 (sc) (7 : Int) = F (sc) (7 : Int) := ((show F110 (sc) (7 : Int) = F64 (sc) (7 : Int) from hM113 _ _ ho95.1 (own_z ho95.1) (by rw [ho95.2]; rfl)).trans q106)
            have q143 := lz_b (F110 (sc) (14 : Int))
            have q144 : F110 (pg) (9 : Int) = Fx (pg) (9 : Int) := ((show F110 (pg) (9 : Int) = F64 (pg) (9 : Int) from hM113 _ _ ho96.1 (own_z ho96.1) (by rw [ho96.2]; rfl)).trans q108)
            have q145 : F110 (me) (2 : Int) = Fx (me) (2 : Int) := ((show F110 (me) (2 : Int) = F64 (me) (2 : Int) from hM113 _ _ ho94.1 (own_z ho94.1) (by rw [ho94.2]; rfl)).trans ((show F64 (me) (2 : Int) = F20 (me) (2 : Int) from hM68 _ _ ho45.1 (own_z ho45.1) (by rw [ho45.2]; rfl)).trans (show F20 (me) (2 : Int) = Fx (me) (2 : Int) from hM23 _ _ ho2.1 (own_z ho2.1) (by rw [ho2.2]; rfl))))
            refine cx_vi (c := 8) (a := me) (st := []) (as := [.int (i32 (2))]) rfl rfl rfl ho135.1 ho135.2 (by decide) rfl ⟨rfl, rfl, (Nat.le_of_ble_eq_true rfl)⟩ rfl (PPx_all X 18 (dd := d) (R := R) (m := m109) (tg := tg109) (ln := ln109) (F := F110) (me := me) (lv := 2) (hd := by omega) (hC := hC112) (o_me := ho135.1) (t_me := ho135.2) (h_lv := by omega) (sc := sc) (pg := pg) (o_sc := ho136.1) (t_sc := ho136.2) (e_sc := (((show F110 (me) (1 : Int) = F64 (me) (1 : Int) from hM113 _ _ ho94.1 (own_z ho94.1) (by rw [ho94.2]; rfl)).trans ((show F64 (me) (1 : Int) = F20 (me) (1 : Int) from hM68 _ _ ho45.1 (own_z ho45.1) (by rw [ho45.2]; rfl)).trans ((show F20 (me) (1 : Int) = Fx (me) (1 : Int) from hM23 _ _ ho2.1 (own_z ho2.1) (by rw [ho2.2]; rfl)).trans (show Fx (me) (1 : Int) = F (me) (1 : Int) from hMx _ _ o_me (own_z o_me) (by rw [t_me]; rfl))))).trans e_sc)) (o_pg := ho137.1) (t_pg := ho137.2) (e_pg := (((show F110 (me) (0 : Int) = F64 (me) (0 : Int) from hM113 _ _ ho94.1 (own_z ho94.1) (by rw [ho94.2]; rfl)).trans ((show F64 (me) (0 : Int) = F20 (me) (0 : Int) from hM68 _ _ ho45.1 (own_z ho45.1) (by rw [ho45.2]; rfl)).trans ((show F20 (me) (0 : Int) = Fx (me) (0 : Int) from hM23 _ _ ho2.1 (own_z ho2.1) (by rw [ho2.2]; rfl)).trans (show Fx (me) (0 : Int) = F (me) (0 : Int) from hMx _ _ o_me (own_z o_me) (by rw [t_me]; rfl))))).trans e_pg)) (p_0 := by omega) (p_1 := by omega) (p_2 := by omega) (p_3 := by omega) (c_NP := c121)) (fun o V_q hq => ?_)
            obtain ⟨m146, tg146, ln146, F147, r148, rfl, rfl, hx149, hC150, hM151, b152, p153, p154, p155, p156, p157, p158, p159, p160, p161, p162, p163, p164, c165, c166, -⟩ | ⟨m167, tg167, ln167, F167, x167, rfl, rfl, hx167, hC167, hM167, ho167, ht167, p168, p169, p170, p171, c172, c173, -⟩ := hq
            rotate_left
            ·
              have c174 : NM m m167 tg167 := NM_t c139 hx167 c173
              have lm175 := hx167.1
              refine Or.inr (Or.inr (Or.inr ⟨_, _, rfl, cx_exc (c := 15) ho167 ht167 (by decide), rfl, ?_⟩))
              have q176 : F110 (sc) (7 : Int) = F (sc) (7 : Int) := q142
              exact Or.inr ⟨m167, tg167, ln167, F167, x167, rfl, rfl, Ex_t hX138 hx167, hC167, Fq_t (ln := ln) (ln1 := ln109) hM133 hX138 hM167 (by decide) (Or.inl rfl), (And.intro ho167 ht167).1, (And.intro ho167 ht167).2, by omega, by omega, by omega, by omega, c172, c174, trivial⟩
            have hM177 : Fq 0 [(7, 15), (9, 2), (9, 3), (10, 0), (10, 1), (10, 2), (10, 7), (10, 8), (10, 9), (11, 8), (11, 12), (11, 13), (11, 14), (11, 15), (11, 16), (11, 17), (11, 18), (24, -5), (26, -5)] m tg F F147 := Fq_t (ln := ln) (ln1 := ln109) hM133 hX138 hM151 (by decide) (Or.inl rfl)
            have lm178 := hx149.1
            have ho179 : own m146 (me) ∧ tg146 (me) = 9 := Ex_o hx149 ⟨ho135.1, ho135.2⟩
            have ho180 : own m146 (sc) ∧ tg146 (sc) = 11 := Ex_o hx149 ⟨ho136.1, ho136.2⟩
            have ho181 : own m146 (pg) ∧ tg146 (pg) = 10 := Ex_o hx149 ⟨ho137.1, ho137.2⟩
            have hX182 := Ex_t hX138 hx149
            have c183 : NM m m146 tg146 := NM_t c139 hx149 c166
            have c184 : CR m146 tg146 F147 (F pg (3 : Int)) (cr + k) := CR_x c140 hx149 hM151 rfl
            refine Or.inr (Or.inl ⟨_, rfl, ?_⟩)
            have rl : r148 < 64 + (m146 : Int) := b152.1.2.1
            refine jx_ld (pc_q := 176) (l_q := jSto1 L100 4 (rv (r148))) (st_q := []) rfl (js_rv (by decide)) ?_
            obtain ⟨L185, eL185⟩ : ∃ q : jL, q = jSto1 L100 4 (rv (r148)) := ⟨_, rfl⟩
            rw [← eL185]
            have g186 : jGet L185 0 = some (rv (me)) := eL185 ▸ jg_nr (by decide) g101
            have g187 : jGet L185 1 = some (.int (i32 (k))) := eL185 ▸ jg_ne (by decide) g102 rfl
            have g188 : jGet L185 2 = some (.int (i32 (0))) := eL185 ▸ jg_ne (by decide) g103 rfl
            have g189 : jGet L185 3 = some (.int (i32 (r65))) := eL185 ▸ jg_ne (by decide) g104 rfl
            have g190 : jGet L185 4 = some (rv (r148)) := eL185 ▸ jg_eq
            clear eL185
            refine jx_ld (pc_q := 177) (l_q := L185) (st_q := [.int (i32 (r65))]) rfl (jl_iloadn g189) ?_
            refine jx_if_lt (pc_q := 180) (tg := 197) rfl rfl rfl (by omega) (by omega) (fun h191 => ?_) (fun h191 => ?_)
            · have _q := h191
              refine jx_inc (pc_q := 200) (l_q := jSto1 L185 1 (.int (i32 (k + (1))))) (x := k) rfl g187 (by decide) rfl rfl ?_
              obtain ⟨L192, eL192⟩ : ∃ q : jL, q = jSto1 L185 1 (.int (i32 ((k + (1))))) := ⟨_, rfl⟩
              rw [← eL192]
              have g193 : jGet L192 0 = some (rv (me)) := eL192 ▸ jg_nr (by decide) g186
              have g194 : jGet L192 2 = some (.int (i32 (0))) := eL192 ▸ jg_ne (by decide) g188 rfl
              have g195 : jGet L192 3 = some (.int (i32 (r65))) := eL192 ▸ jg_ne (by decide) g189 rfl
              have g196 : jGet L192 4 = some (rv (r148)) := eL192 ▸ jg_nr (by decide) g190
              have g197 : jGet L192 1 = some (.int (i32 ((k + (1))))) := eL192 ▸ jg_eq
              clear eL192
              refine jx_go (tg := 69) rfl rfl ?_
              have q198 := tz_b (F147 (sc) (15 : Int))
              have q199 := lz_b (F147 (sc) (14 : Int))
              exact ih _ (by omega) L192 m146 tg146 ln146 F147 ((k + (1))) rfl g193 g197 hX182 hC150 hM177 (by omega) (by omega) (by omega) (by omega) (by omega) (by omega) (by omega) (by omega) (by omega) (by omega) c165 c183 (CR_m c184 (by omega))
            · have _q := h191
              refine jx_ld (pc_q := 181) (l_q := L185) (st_q := [.int (i32 (r65))]) rfl (jl_iloadn g189) ?_
              refine jx_ar (pc_q := 183) (st_q := [.int (i32 (6)), .int (i32 (r65))]) rfl rfl rfl rfl ?_
              refine jx_icmp_ge (pc_q := 186) (tg := 197) rfl rfl rfl (by omega) (by omega) (by decide) (by decide) (fun h200 => ?_) (fun h200 => ?_)
              · have _q := h200
                refine jx_inc (pc_q := 200) (l_q := jSto1 L185 1 (.int (i32 (k + (1))))) (x := k) rfl g187 (by decide) rfl rfl ?_
                obtain ⟨L201, eL201⟩ : ∃ q : jL, q = jSto1 L185 1 (.int (i32 ((k + (1))))) := ⟨_, rfl⟩
                rw [← eL201]
                have g202 : jGet L201 0 = some (rv (me)) := eL201 ▸ jg_nr (by decide) g186
                have g203 : jGet L201 2 = some (.int (i32 (0))) := eL201 ▸ jg_ne (by decide) g188 rfl
                have g204 : jGet L201 3 = some (.int (i32 (r65))) := eL201 ▸ jg_ne (by decide) g189 rfl
                have g205 : jGet L201 4 = some (rv (r148)) := eL201 ▸ jg_nr (by decide) g190
                have g206 : jGet L201 1 = some (.int (i32 ((k + (1))))) := eL201 ▸ jg_eq
                clear eL201
                refine jx_go (tg := 69) rfl rfl ?_
                have q207 := tz_b (F147 (sc) (15 : Int))
                have q208 := lz_b (F147 (sc) (14 : Int))
                exact ih _ (by omega) L201 m146 tg146 ln146 F147 ((k + (1))) rfl g202 g206 hX182 hC150 hM177 (by omega) (by omega) (by omega) (by omega) (by omega) (by omega) (by omega) (by omega) (by omega) (by omega) c165 c183 (CR_m c184 (by omega))
              · have _q := h200
                refine jx_ld (pc_q := 187) (l_q := L185) (st_q := [rv (me)]) rfl (jl_rvn g186) ?_
                refine cx_gr (pc_q := 190) (c := 8) (q := 0) (v := pg) rfl rfl (by decide) (by decide) rfl rfl ho179.1 ho179.2 (((show F147 (me) (0 : Int) = F110 (me) (0 : Int) from hM151 _ _ ho135.1 (own_z ho135.1) (by rw [ho135.2]; rfl)).trans ((show F110 (me) (0 : Int) = F64 (me) (0 : Int) from hM113 _ _ ho94.1 (own_z ho94.1) (by rw [ho94.2]; rfl)).trans ((show F64 (me) (0 : Int) = F20 (me) (0 : Int) from hM68 _ _ ho45.1 (own_z ho45.1) (by rw [ho45.2]; rfl)).trans ((show F20 (me) (0 : Int) = Fx (me) (0 : Int) from hM23 _ _ ho2.1 (own_z ho2.1) (by rw [ho2.2]; rfl)).trans (show Fx (me) (0 : Int) = F (me) (0 : Int) from hMx _ _ o_me (own_z o_me) (by rw [t_me]; rfl)))))).trans e_pg) ?_
                refine cx_gr (pc_q := 193) (c := 9) (q := 3) (v := F (pg) (3 : Int)) rfl rfl (by decide) (by decide) rfl rfl ho181.1 ho181.2 ((show F147 (pg) (3 : Int) = F110 (pg) (3 : Int) from hM151 _ _ ho137.1 (own_z ho137.1) (by rw [ho137.2]; rfl)).trans ((show F110 (pg) (3 : Int) = F64 (pg) (3 : Int) from hM113 _ _ ho96.1 (own_z ho96.1) (by rw [ho96.2]; rfl)).trans ((show F64 (pg) (3 : Int) = F20 (pg) (3 : Int) from hM68 _ _ ho47.1 (own_z ho47.1) (by rw [ho47.2]; rfl)).trans ((show F20 (pg) (3 : Int) = Fx (pg) (3 : Int) from hM23 _ _ ho4.1 (own_z ho4.1) (by rw [ho4.2]; rfl)).trans (show Fx (pg) (3 : Int) = F (pg) (3 : Int) from hMx _ _ o_pg (own_z o_pg) (by rw [t_pg]; rfl)))))) ?_
                have y209 : own m146 (F (pg) (3 : Int)) ∧ tg146 (F (pg) (3 : Int)) = 24 ∧ ((6 : Int) ≠ 0 → ln146 (F (pg) (3 : Int)) = 6) := by have z := HC_n (c := 9) (q := 3) hC150 ho181.1 ho181.2 (own_z ho181.1) (by decide) rfl; rw [show F147 (pg) ((3 : Nat) : Int) = F (pg) (3 : Int) from ((show F147 (pg) (3 : Int) = F110 (pg) (3 : Int) from hM151 _ _ ho137.1 (own_z ho137.1) (by rw [ho137.2]; rfl)).trans ((show F110 (pg) (3 : Int) = F64 (pg) (3 : Int) from hM113 _ _ ho96.1 (own_z ho96.1) (by rw [ho96.2]; rfl)).trans ((show F64 (pg) (3 : Int) = F20 (pg) (3 : Int) from hM68 _ _ ho47.1 (own_z ho47.1) (by rw [ho47.2]; rfl)).trans ((show F20 (pg) (3 : Int) = Fx (pg) (3 : Int) from hM23 _ _ ho4.1 (own_z ho4.1) (by rw [ho4.2]; rfl)).trans (show Fx (pg) (3 : Int) = F (pg) (3 : Int) from hMx _ _ o_pg (own_z o_pg) (by rw [t_pg]; rfl))))))] at z; exact ⟨z.1, z.2.1, z.2.2.1⟩
                have ly209 : ln146 (F (pg) (3 : Int)) = 6 := y209.2.2 (by decide)
                refine jx_ld (pc_q := 194) (l_q := L185) (st_q := [.int (i32 (r65)), rv (F (pg) (3 : Int))]) rfl (jl_iloadn g189) ?_
                refine jx_ld (pc_q := 196) (l_q := L185) (st_q := [rv (r148), .int (i32 (r65)), rv (F (pg) (3 : Int))]) rfl (jl_rv g190) ?_
                have b210 := HC_l hC150 y209.1 y209.2.1 (by decide)
                refine cx_aas (pc_q := 197) (c := 7) (z := r65) (y := r148) rfl rfl y209.1 (by rw [y209.2.1]; decide) (by omega) (by omega) (by omega) (fun hz => (Or.inr ⟨b152.1, b152.2⟩).resolve_left hz) (by decide) (by rw [y209.2.1]; rfl) ?_
                obtain ⟨F211, eF211⟩ : ∃ q, q = uF F147 (F (pg) (3 : Int)) (r65) (r148) := ⟨_, rfl⟩
                rw [← eF211]
                have hC212 : HC 0 m146 tg146 ln146 F211 := by rw [eF211]; exact HC_pa hC150 y209.1 y209.2.1 (by decide) (by omega) (Or.inr ⟨b152.1, b152.2⟩)
                have hM213 : Fq 0 [(7, 15), (9, 2), (9, 3), (10, 0), (10, 1), (10, 2), (10, 7), (10, 8), (10, 9), (11, 8), (11, 12), (11, 13), (11, 14), (11, 15), (11, 16), (11, 17), (11, 18), (24, -5), (26, -5)] m tg F F211 := by rw [eF211]; exact Fq_p hM177 y209.2.1 (fun w => (hX182.2 _ w).1) (inL_a rfl (by omega) rfl)
                have c214 : NP m146 tg146 F211 := by rw [eF211]; exact NP_rt hC150 c165 y209.2.1 (show F147 (F (pg) (3 : Int)) (-1) = 0 by have z := HC_n (c := 9) (q := 3) hC150 ho181.1 ho181.2 (own_z ho181.1) (by decide) rfl; rw [show F147 (pg) ((3 : Nat) : Int) = F (pg) (3 : Int) from ((show F147 (pg) (3 : Int) = F110 (pg) (3 : Int) from hM151 _ _ ho137.1 (own_z ho137.1) (by rw [ho137.2]; rfl)).trans ((show F110 (pg) (3 : Int) = F64 (pg) (3 : Int) from hM113 _ _ ho96.1 (own_z ho96.1) (by rw [ho96.2]; rfl)).trans ((show F64 (pg) (3 : Int) = F20 (pg) (3 : Int) from hM68 _ _ ho47.1 (own_z ho47.1) (by rw [ho47.2]; rfl)).trans ((show F20 (pg) (3 : Int) = Fx (pg) (3 : Int) from hM23 _ _ ho4.1 (own_z ho4.1) (by rw [ho4.2]; rfl)).trans (show Fx (pg) (3 : Int) = F (pg) (3 : Int) from hMx _ _ o_pg (own_z o_pg) (by rw [t_pg]; rfl))))))] at z; exact z.2.2.2 (by decide)) (by omega) (SN_i b152.1 b152.2 (by omega) (by omega) (by omega))
                have c215 : CR m146 tg146 F211 (F pg (3 : Int)) ((cr + k) + 1) := by rw [eF211]; exact CR_p c184
                refine jx_inc (pc_q := 200) (l_q := jSto1 L185 1 (.int (i32 (k + (1))))) (x := k) rfl g187 (by decide) rfl rfl ?_
                obtain ⟨L216, eL216⟩ : ∃ q : jL, q = jSto1 L185 1 (.int (i32 ((k + (1))))) := ⟨_, rfl⟩
                rw [← eL216]
                have g217 : jGet L216 0 = some (rv (me)) := eL216 ▸ jg_nr (by decide) g186
                have g218 : jGet L216 2 = some (.int (i32 (0))) := eL216 ▸ jg_ne (by decide) g188 rfl
                have g219 : jGet L216 3 = some (.int (i32 (r65))) := eL216 ▸ jg_ne (by decide) g189 rfl
                have g220 : jGet L216 4 = some (rv (r148)) := eL216 ▸ jg_nr (by decide) g190
                have g221 : jGet L216 1 = some (.int (i32 ((k + (1))))) := eL216 ▸ jg_eq
                clear eL216
                refine jx_go (tg := 69) rfl rfl ?_
                have q222 : F211 (sc) (8 : Int) = F147 (sc) (8 : Int) := (show F211 (sc) (8 : Int) = F147 (sc) (8 : Int) from by rw [eF211]; exact uF_a (fun w => by have q1 := ho180.2; have q2 := y209.2.1; rw [w, q2] at q1; exact absurd q1 (by decide)))
                have q223 : F211 (sc) (15 : Int) = F147 (sc) (15 : Int) := (show F211 (sc) (15 : Int) = F147 (sc) (15 : Int) from by rw [eF211]; exact uF_a (fun w => by have q1 := ho180.2; have q2 := y209.2.1; rw [w, q2] at q1; exact absurd q1 (by decide)))
                have q224 : tz (F211 (sc) (15 : Int)) = tz (F147 (sc) (15 : Int)) := by rw [q223]
                have q225 := tz_b (F147 (sc) (15 : Int))
                have q226 : F211 (sc) (14 : Int) = F147 (sc) (14 : Int) := (show F211 (sc) (14 : Int) = F147 (sc) (14 : Int) from by rw [eF211]; exact uF_a (fun w => by have q1 := ho180.2; have q2 := y209.2.1; rw [w, q2] at q1; exact absurd q1 (by decide)))
                have q227 : lz (F211 (sc) (14 : Int)) = lz (F147 (sc) (14 : Int)) := by rw [q226]
                have q228 := lz_b (F147 (sc) (14 : Int))
                have q229 : F211 (pg) (9 : Int) = F147 (pg) (9 : Int) := (show F211 (pg) (9 : Int) = F147 (pg) (9 : Int) from by rw [eF211]; exact uF_a (fun w => by have q1 := ho181.2; have q2 := y209.2.1; rw [w, q2] at q1; exact absurd q1 (by decide)))
                exact ih _ (by omega) L216 m146 tg146 ln146 F211 ((k + (1))) rfl g217 g221 hX182 hC212 hM213 (by omega) (by omega) (by omega) (by omega) (by omega) (by omega) (by omega) (by omega) (by omega) (by omega) c214 c183 (CR_m c215 (by omega))
          · have _q := h58
            have t230 : tz (F20 (sc) (15 : Int)) = 1 := tz_p (by omega)
            refine jx_ld (pc_q := 151) (l_q := L53) (st_q := [.int (i32 (0))]) rfl (jl_iloadn g56) ?_
            refine jx_if_eq (pc_q := 154) (tg := 158) rfl rfl rfl (by decide) (by decide) (fun h231 => ?_) (fun h231 => ?_)
            · have _q := h231
              refine jx_ld (pc_q := 159) (l_q := L53) (st_q := [rv (me)]) rfl (jl_rvn g54) ?_
              refine jx_ar (pc_q := 160) (st_q := [.int (i32 (0)), rv (me)]) rfl rfl rfl rfl ?_
              refine jx_ar (pc_q := 161) (st_q := [.int (i32 (5)), .int (i32 (0)), rv (me)]) rfl rfl rfl rfl ?_
              have q232 := tz_b (F20 (sc) (15 : Int))
              have q233 : F20 (sc) (7 : Int) = F (sc) (7 : Int) := ((show F20 (sc) (7 : Int) = Fx (sc) (7 : Int) from hM23 _ _ ho3.1 (own_z ho3.1) (by rw [ho3.2]; rfl)).trans (show Fx (sc) (7 : Int) = F (sc) (7 : Int) from hMx _ _ o_sc (own_z o_sc) (by rw [t_sc]; rfl)))
              have q234 := lz_b (F20 (sc) (14 : Int))
              have q235 : F20 (pg) (9 : Int) = Fx (pg) (9 : Int) := (show F20 (pg) (9 : Int) = Fx (pg) (9 : Int) from hM23 _ _ ho4.1 (own_z ho4.1) (by rw [ho4.2]; rfl))
              refine cx_vi (c := 8) (a := me) (st := []) (as := [.int (i32 (0)), .int (i32 (5))]) rfl rfl rfl ho45.1 ho45.2 (by decide) rfl ⟨rfl, rfl, (Nat.le_of_ble_eq_true rfl)⟩ rfl (k_LParser_readNumber (dd := d) (R := R) (m := m19) (tg := tg19) (ln := ln19) (F := F20) (me := me) (le := 0) (mo := 5) (hd := by omega) (hC := hC22) (o_me := ho45.1) (t_me := ho45.2) (h_le := by omega) (h_mo := by omega) (sc := sc) (pg := pg) (o_sc := ho46.1) (t_sc := ho46.2) (e_sc := (((show F20 (me) (1 : Int) = Fx (me) (1 : Int) from hM23 _ _ ho2.1 (own_z ho2.1) (by rw [ho2.2]; rfl)).trans (show Fx (me) (1 : Int) = F (me) (1 : Int) from hMx _ _ o_me (own_z o_me) (by rw [t_me]; rfl))).trans e_sc)) (o_pg := ho47.1) (t_pg := ho47.2) (e_pg := (((show F20 (me) (0 : Int) = Fx (me) (0 : Int) from hM23 _ _ ho2.1 (own_z ho2.1) (by rw [ho2.2]; rfl)).trans (show Fx (me) (0 : Int) = F (me) (0 : Int) from hMx _ _ o_me (own_z o_me) (by rw [t_me]; rfl))).trans e_pg)) (p_0 := by omega) (p_1 := by omega) (p_2 := by omega) (c_NP := c31)) (fun o V_q hq => ?_)
              obtain ⟨m236, tg236, ln236, F237, r238, rfl, rfl, hx239, hC240, hM241, b242, p243, p244, p245, p246, p247, p248, p249, p250, p251, p252, c253, c254, -⟩ | ⟨m255, tg255, ln255, F255, x255, rfl, rfl, hx255, hC255, hM255, ho255, ht255, p256, p257, p258, p259, c260, c261, -⟩ := hq
              rotate_left
              ·
                have c262 : NM m m255 tg255 := NM_t c49 hx255 c261
                have lm263 := hx255.1
                refine Or.inr (Or.inr (Or.inr ⟨_, _, rfl, cx_exc (c := 15) ho255 ht255 (by decide), rfl, ?_⟩))
                have q264 : F20 (sc) (7 : Int) = F (sc) (7 : Int) := q233
                exact Or.inr ⟨m255, tg255, ln255, F255, x255, rfl, rfl, Ex_t hX48 hx255, hC255, Fq_t (ln := ln) (ln1 := ln19) hM43 hX48 hM255 (by decide) (Or.inl rfl), (And.intro ho255 ht255).1, (And.intro ho255 ht255).2, by omega, by omega, by omega, by omega, c260, c262, trivial⟩
              have hM265 : Fq 0 [(7, 15), (9, 2), (9, 3), (10, 0), (10, 1), (10, 2), (10, 7), (10, 8), (10, 9), (11, 8), (11, 12), (11, 13), (11, 14), (11, 15), (11, 16), (11, 17), (11, 18), (24, -5), (26, -5)] m tg F F237 := Fq_t (ln := ln) (ln1 := ln19) hM43 hX48 hM241 (by decide) (Or.inl rfl)
              have lm266 := hx239.1
              have ho267 : own m236 (me) ∧ tg236 (me) = 9 := Ex_o hx239 ⟨ho45.1, ho45.2⟩
              have ho268 : own m236 (sc) ∧ tg236 (sc) = 11 := Ex_o hx239 ⟨ho46.1, ho46.2⟩
              have ho269 : own m236 (pg) ∧ tg236 (pg) = 10 := Ex_o hx239 ⟨ho47.1, ho47.2⟩
              have hX270 := Ex_t hX48 hx239
              have c271 : NM m m236 tg236 := NM_t c49 hx239 c254
              have c272 : CR m236 tg236 F237 (F pg (3 : Int)) (cr + k) := CR_x c50 hx239 hM241 rfl
              refine Or.inr (Or.inl ⟨_, rfl, ?_⟩)
              refine jx_ld (pc_q := 165) (l_q := jSto1 L53 3 (.int (i32 (r238)))) (st_q := []) rfl rfl ?_
              obtain ⟨L273, eL273⟩ : ∃ q : jL, q = jSto1 L53 3 (.int (i32 (r238))) := ⟨_, rfl⟩
              rw [← eL273]
              have g274 : jGet L273 0 = some (rv (me)) := eL273 ▸ jg_nr (by decide) g54
              have g275 : jGet L273 1 = some (.int (i32 (k))) := eL273 ▸ jg_ne (by decide) g55 rfl
              have g276 : jGet L273 2 = some (.int (i32 (0))) := eL273 ▸ jg_ne (by decide) g56 rfl
              have g277 : jGet L273 3 = some (.int (i32 (r238))) := eL273 ▸ jg_eq
              clear eL273
              refine jx_ld (pc_q := 166) (l_q := L273) (st_q := [rv (me)]) rfl (jl_rvn g274) ?_
              have q278 := tz_b (F237 (sc) (15 : Int))
              have q279 : F237 (sc) (7 : Int) = F (sc) (7 : Int) := ((show F237 (sc) (7 : Int) = F20 (sc) (7 : Int) from hM241 _ _ ho46.1 (own_z ho46.1) (by rw [ho46.2]; rfl)).trans q233)
              have q280 := lz_b (F237 (sc) (14 : Int))
              have q281 : F237 (pg) (9 : Int) = Fx (pg) (9 : Int) := ((show F237 (pg) (9 : Int) = F20 (pg) (9 : Int) from hM241 _ _ ho47.1 (own_z ho47.1) (by rw [ho47.2]; rfl)).trans q235)
              refine cx_vi (c := 8) (a := me) (st := []) (as := []) rfl rfl rfl ho267.1 ho267.2 (by decide) rfl ⟨rfl, rfl, (Nat.le_of_ble_eq_true rfl)⟩ rfl (k_LParser_endLine (dd := d) (R := R) (m := m236) (tg := tg236) (ln := ln236) (F := F237) (me := me) (hd := by omega) (hC := hC240) (o_me := ho267.1) (t_me := ho267.2) (sc := sc) (pg := pg) (o_sc := ho268.1) (t_sc := ho268.2) (e_sc := (((show F237 (me) (1 : Int) = F20 (me) (1 : Int) from hM241 _ _ ho45.1 (own_z ho45.1) (by rw [ho45.2]; rfl)).trans ((show F20 (me) (1 : Int) = Fx (me) (1 : Int) from hM23 _ _ ho2.1 (own_z ho2.1) (by rw [ho2.2]; rfl)).trans (show Fx (me) (1 : Int) = F (me) (1 : Int) from hMx _ _ o_me (own_z o_me) (by rw [t_me]; rfl)))).trans e_sc)) (o_pg := ho269.1) (t_pg := ho269.2) (e_pg := (((show F237 (me) (0 : Int) = F20 (me) (0 : Int) from hM241 _ _ ho45.1 (own_z ho45.1) (by rw [ho45.2]; rfl)).trans ((show F20 (me) (0 : Int) = Fx (me) (0 : Int) from hM23 _ _ ho2.1 (own_z ho2.1) (by rw [ho2.2]; rfl)).trans (show Fx (me) (0 : Int) = F (me) (0 : Int) from hMx _ _ o_me (own_z o_me) (by rw [t_me]; rfl)))).trans e_pg)) (p_0 := by omega) (p_1 := by omega) (p_2 := by omega) (c_NP := c253)) (fun o V_q hq => ?_)
              obtain ⟨m282, tg282, ln282, F283, rfl, rfl, hx284, hC285, hM286, p287, p288, p289, p290, p291, p292, p293, c294, c295, -⟩ | ⟨m296, tg296, ln296, F296, x296, rfl, rfl, hx296, hC296, hM296, ho296, ht296, p297, p298, p299, p300, c301, c302, -⟩ := hq
              rotate_left
              ·
                have c303 : NM m m296 tg296 := NM_t c271 hx296 c302
                have lm304 := hx296.1
                refine Or.inr (Or.inr (Or.inr ⟨_, _, rfl, cx_exc (c := 15) ho296 ht296 (by decide), rfl, ?_⟩))
                have q305 : F237 (sc) (7 : Int) = F (sc) (7 : Int) := q279
                exact Or.inr ⟨m296, tg296, ln296, F296, x296, rfl, rfl, Ex_t hX270 hx296, hC296, Fq_t (ln := ln) (ln1 := ln236) hM265 hX270 hM296 (by decide) (Or.inl rfl), (And.intro ho296 ht296).1, (And.intro ho296 ht296).2, by omega, by omega, by omega, by omega, c301, c303, trivial⟩
              have hM306 : Fq 0 [(7, 15), (9, 2), (9, 3), (10, 0), (10, 1), (10, 2), (10, 7), (10, 8), (10, 9), (11, 8), (11, 12), (11, 13), (11, 14), (11, 15), (11, 16), (11, 17), (11, 18), (24, -5), (26, -5)] m tg F F283 := Fq_t (ln := ln) (ln1 := ln236) hM265 hX270 hM286 (by decide) (Or.inl rfl)
              have lm307 := hx284.1
              have ho308 : own m282 (me) ∧ tg282 (me) = 9 := Ex_o hx284 ⟨ho267.1, ho267.2⟩
              have ho309 : own m282 (sc) ∧ tg282 (sc) = 11 := Ex_o hx284 ⟨ho268.1, ho268.2⟩
              have ho310 : own m282 (pg) ∧ tg282 (pg) = 10 := Ex_o hx284 ⟨ho269.1, ho269.2⟩
              have hX311 := Ex_t hX270 hx284
              have c312 : NM m m282 tg282 := NM_t c271 hx284 c295
              have c313 : CR m282 tg282 F283 (F pg (3 : Int)) (cr + k) := CR_x c272 hx284 hM286 rfl
              refine Or.inl ⟨rfl, ?_⟩
              refine jx_ld (pc_q := 170) (l_q := L273) (st_q := [rv (me)]) rfl (jl_rvn g274) ?_
              refine jx_ar (pc_q := 171) (st_q := [.int (i32 (2)), rv (me)]) rfl rfl rfl rfl ?_
              have q314 := tz_b (F283 (sc) (15 : Int))
              have q315 : F283 (sc) (7 : Int) = F (sc) (7 : Int) := ((show F283 (sc) (7 : Int) = F237 (sc) (7 : Int) from hM286 _ _ ho268.1 (own_z ho268.1) (by rw [ho268.2]; rfl)).trans q279)
              have q316 := lz_b (F283 (sc) (14 : Int))
              have q317 : F283 (pg) (9 : Int) = Fx (pg) (9 : Int) := ((show F283 (pg) (9 : Int) = F237 (pg) (9 : Int) from hM286 _ _ ho269.1 (own_z ho269.1) (by rw [ho269.2]; rfl)).trans q281)
              have q318 : F283 (me) (2 : Int) = Fx (me) (2 : Int) := ((show F283 (me) (2 : Int) = F237 (me) (2 : Int) from hM286 _ _ ho267.1 (own_z ho267.1) (by rw [ho267.2]; rfl)).trans ((show F237 (me) (2 : Int) = F20 (me) (2 : Int) from hM241 _ _ ho45.1 (own_z ho45.1) (by rw [ho45.2]; rfl)).trans (show F20 (me) (2 : Int) = Fx (me) (2 : Int) from hM23 _ _ ho2.1 (own_z ho2.1) (by rw [ho2.2]; rfl))))
              refine cx_vi (c := 8) (a := me) (st := []) (as := [.int (i32 (2))]) rfl rfl rfl ho308.1 ho308.2 (by decide) rfl ⟨rfl, rfl, (Nat.le_of_ble_eq_true rfl)⟩ rfl (PPx_all X 18 (dd := d) (R := R) (m := m282) (tg := tg282) (ln := ln282) (F := F283) (me := me) (lv := 2) (hd := by omega) (hC := hC285) (o_me := ho308.1) (t_me := ho308.2) (h_lv := by omega) (sc := sc) (pg := pg) (o_sc := ho309.1) (t_sc := ho309.2) (e_sc := (((show F283 (me) (1 : Int) = F237 (me) (1 : Int) from hM286 _ _ ho267.1 (own_z ho267.1) (by rw [ho267.2]; rfl)).trans ((show F237 (me) (1 : Int) = F20 (me) (1 : Int) from hM241 _ _ ho45.1 (own_z ho45.1) (by rw [ho45.2]; rfl)).trans ((show F20 (me) (1 : Int) = Fx (me) (1 : Int) from hM23 _ _ ho2.1 (own_z ho2.1) (by rw [ho2.2]; rfl)).trans (show Fx (me) (1 : Int) = F (me) (1 : Int) from hMx _ _ o_me (own_z o_me) (by rw [t_me]; rfl))))).trans e_sc)) (o_pg := ho310.1) (t_pg := ho310.2) (e_pg := (((show F283 (me) (0 : Int) = F237 (me) (0 : Int) from hM286 _ _ ho267.1 (own_z ho267.1) (by rw [ho267.2]; rfl)).trans ((show F237 (me) (0 : Int) = F20 (me) (0 : Int) from hM241 _ _ ho45.1 (own_z ho45.1) (by rw [ho45.2]; rfl)).trans ((show F20 (me) (0 : Int) = Fx (me) (0 : Int) from hM23 _ _ ho2.1 (own_z ho2.1) (by rw [ho2.2]; rfl)).trans (show Fx (me) (0 : Int) = F (me) (0 : Int) from hMx _ _ o_me (own_z o_me) (by rw [t_me]; rfl))))).trans e_pg)) (p_0 := by omega) (p_1 := by omega) (p_2 := by omega) (p_3 := by omega) (c_NP := c294)) (fun o V_q hq => ?_)
              obtain ⟨m319, tg319, ln319, F320, r321, rfl, rfl, hx322, hC323, hM324, b325, p326, p327, p328, p329, p330, p331, p332, p333, p334, p335, p336, p337, c338, c339, -⟩ | ⟨m340, tg340, ln340, F340, x340, rfl, rfl, hx340, hC340, hM340, ho340, ht340, p341, p342, p343, p344, c345, c346, -⟩ := hq
              rotate_left
              ·
                have c347 : NM m m340 tg340 := NM_t c312 hx340 c346
                have lm348 := hx340.1
                refine Or.inr (Or.inr (Or.inr ⟨_, _, rfl, cx_exc (c := 15) ho340 ht340 (by decide), rfl, ?_⟩))
                have q349 : F283 (sc) (7 : Int) = F (sc) (7 : Int) := q315
                exact Or.inr ⟨m340, tg340, ln340, F340, x340, rfl, rfl, Ex_t hX311 hx340, hC340, Fq_t (ln := ln) (ln1 := ln282) hM306 hX311 hM340 (by decide) (Or.inl rfl), (And.intro ho340 ht340).1, (And.intro ho340 ht340).2, by omega, by omega, by omega, by omega, c345, c347, trivial⟩
              have hM350 : Fq 0 [(7, 15), (9, 2), (9, 3), (10, 0), (10, 1), (10, 2), (10, 7), (10, 8), (10, 9), (11, 8), (11, 12), (11, 13), (11, 14), (11, 15), (11, 16), (11, 17), (11, 18), (24, -5), (26, -5)] m tg F F320 := Fq_t (ln := ln) (ln1 := ln282) hM306 hX311 hM324 (by decide) (Or.inl rfl)
              have lm351 := hx322.1
              have ho352 : own m319 (me) ∧ tg319 (me) = 9 := Ex_o hx322 ⟨ho308.1, ho308.2⟩
              have ho353 : own m319 (sc) ∧ tg319 (sc) = 11 := Ex_o hx322 ⟨ho309.1, ho309.2⟩
              have ho354 : own m319 (pg) ∧ tg319 (pg) = 10 := Ex_o hx322 ⟨ho310.1, ho310.2⟩
              have hX355 := Ex_t hX311 hx322
              have c356 : NM m m319 tg319 := NM_t c312 hx322 c339
              have c357 : CR m319 tg319 F320 (F pg (3 : Int)) (cr + k) := CR_x c313 hx322 hM324 rfl
              refine Or.inr (Or.inl ⟨_, rfl, ?_⟩)
              have rl : r321 < 64 + (m319 : Int) := b325.1.2.1
              refine jx_ld (pc_q := 176) (l_q := jSto1 L273 4 (rv (r321))) (st_q := []) rfl (js_rv (by decide)) ?_
              obtain ⟨L358, eL358⟩ : ∃ q : jL, q = jSto1 L273 4 (rv (r321)) := ⟨_, rfl⟩
              rw [← eL358]
              have g359 : jGet L358 0 = some (rv (me)) := eL358 ▸ jg_nr (by decide) g274
              have g360 : jGet L358 1 = some (.int (i32 (k))) := eL358 ▸ jg_ne (by decide) g275 rfl
              have g361 : jGet L358 2 = some (.int (i32 (0))) := eL358 ▸ jg_ne (by decide) g276 rfl
              have g362 : jGet L358 3 = some (.int (i32 (r238))) := eL358 ▸ jg_ne (by decide) g277 rfl
              have g363 : jGet L358 4 = some (rv (r321)) := eL358 ▸ jg_eq
              clear eL358
              refine jx_ld (pc_q := 177) (l_q := L358) (st_q := [.int (i32 (r238))]) rfl (jl_iloadn g362) ?_
              refine jx_if_lt (pc_q := 180) (tg := 197) rfl rfl rfl (by omega) (by omega) (fun h364 => ?_) (fun h364 => ?_)
              · have _q := h364
                refine jx_inc (pc_q := 200) (l_q := jSto1 L358 1 (.int (i32 (k + (1))))) (x := k) rfl g360 (by decide) rfl rfl ?_
                obtain ⟨L365, eL365⟩ : ∃ q : jL, q = jSto1 L358 1 (.int (i32 ((k + (1))))) := ⟨_, rfl⟩
                rw [← eL365]
                have g366 : jGet L365 0 = some (rv (me)) := eL365 ▸ jg_nr (by decide) g359
                have g367 : jGet L365 2 = some (.int (i32 (0))) := eL365 ▸ jg_ne (by decide) g361 rfl
                have g368 : jGet L365 3 = some (.int (i32 (r238))) := eL365 ▸ jg_ne (by decide) g362 rfl
                have g369 : jGet L365 4 = some (rv (r321)) := eL365 ▸ jg_nr (by decide) g363
                have g370 : jGet L365 1 = some (.int (i32 ((k + (1))))) := eL365 ▸ jg_eq
                clear eL365
                refine jx_go (tg := 69) rfl rfl ?_
                have q371 := tz_b (F320 (sc) (15 : Int))
                have q372 := lz_b (F320 (sc) (14 : Int))
                exact ih _ (by omega) L365 m319 tg319 ln319 F320 ((k + (1))) rfl g366 g370 hX355 hC323 hM350 (by omega) (by omega) (by omega) (by omega) (by omega) (by omega) (by omega) (by omega) (by omega) (by omega) c338 c356 (CR_m c357 (by omega))
              · have _q := h364
                refine jx_ld (pc_q := 181) (l_q := L358) (st_q := [.int (i32 (r238))]) rfl (jl_iloadn g362) ?_
                refine jx_ar (pc_q := 183) (st_q := [.int (i32 (6)), .int (i32 (r238))]) rfl rfl rfl rfl ?_
                refine jx_icmp_ge (pc_q := 186) (tg := 197) rfl rfl rfl (by omega) (by omega) (by decide) (by decide) (fun h373 => ?_) (fun h373 => ?_)
                · have _q := h373
                  refine jx_inc (pc_q := 200) (l_q := jSto1 L358 1 (.int (i32 (k + (1))))) (x := k) rfl g360 (by decide) rfl rfl ?_
                  obtain ⟨L374, eL374⟩ : ∃ q : jL, q = jSto1 L358 1 (.int (i32 ((k + (1))))) := ⟨_, rfl⟩
                  rw [← eL374]
                  have g375 : jGet L374 0 = some (rv (me)) := eL374 ▸ jg_nr (by decide) g359
                  have g376 : jGet L374 2 = some (.int (i32 (0))) := eL374 ▸ jg_ne (by decide) g361 rfl
                  have g377 : jGet L374 3 = some (.int (i32 (r238))) := eL374 ▸ jg_ne (by decide) g362 rfl
                  have g378 : jGet L374 4 = some (rv (r321)) := eL374 ▸ jg_nr (by decide) g363
                  have g379 : jGet L374 1 = some (.int (i32 ((k + (1))))) := eL374 ▸ jg_eq
                  clear eL374
                  refine jx_go (tg := 69) rfl rfl ?_
                  have q380 := tz_b (F320 (sc) (15 : Int))
                  have q381 := lz_b (F320 (sc) (14 : Int))
                  exact ih _ (by omega) L374 m319 tg319 ln319 F320 ((k + (1))) rfl g375 g379 hX355 hC323 hM350 (by omega) (by omega) (by omega) (by omega) (by omega) (by omega) (by omega) (by omega) (by omega) (by omega) c338 c356 (CR_m c357 (by omega))
                · have _q := h373
                  refine jx_ld (pc_q := 187) (l_q := L358) (st_q := [rv (me)]) rfl (jl_rvn g359) ?_
                  refine cx_gr (pc_q := 190) (c := 8) (q := 0) (v := pg) rfl rfl (by decide) (by decide) rfl rfl ho352.1 ho352.2 (((show F320 (me) (0 : Int) = F283 (me) (0 : Int) from hM324 _ _ ho308.1 (own_z ho308.1) (by rw [ho308.2]; rfl)).trans ((show F283 (me) (0 : Int) = F237 (me) (0 : Int) from hM286 _ _ ho267.1 (own_z ho267.1) (by rw [ho267.2]; rfl)).trans ((show F237 (me) (0 : Int) = F20 (me) (0 : Int) from hM241 _ _ ho45.1 (own_z ho45.1) (by rw [ho45.2]; rfl)).trans ((show F20 (me) (0 : Int) = Fx (me) (0 : Int) from hM23 _ _ ho2.1 (own_z ho2.1) (by rw [ho2.2]; rfl)).trans (show Fx (me) (0 : Int) = F (me) (0 : Int) from hMx _ _ o_me (own_z o_me) (by rw [t_me]; rfl)))))).trans e_pg) ?_
                  refine cx_gr (pc_q := 193) (c := 9) (q := 3) (v := F (pg) (3 : Int)) rfl rfl (by decide) (by decide) rfl rfl ho354.1 ho354.2 ((show F320 (pg) (3 : Int) = F283 (pg) (3 : Int) from hM324 _ _ ho310.1 (own_z ho310.1) (by rw [ho310.2]; rfl)).trans ((show F283 (pg) (3 : Int) = F237 (pg) (3 : Int) from hM286 _ _ ho269.1 (own_z ho269.1) (by rw [ho269.2]; rfl)).trans ((show F237 (pg) (3 : Int) = F20 (pg) (3 : Int) from hM241 _ _ ho47.1 (own_z ho47.1) (by rw [ho47.2]; rfl)).trans ((show F20 (pg) (3 : Int) = Fx (pg) (3 : Int) from hM23 _ _ ho4.1 (own_z ho4.1) (by rw [ho4.2]; rfl)).trans (show Fx (pg) (3 : Int) = F (pg) (3 : Int) from hMx _ _ o_pg (own_z o_pg) (by rw [t_pg]; rfl)))))) ?_
                  have y382 : own m319 (F (pg) (3 : Int)) ∧ tg319 (F (pg) (3 : Int)) = 24 ∧ ((6 : Int) ≠ 0 → ln319 (F (pg) (3 : Int)) = 6) := by have z := HC_n (c := 9) (q := 3) hC323 ho354.1 ho354.2 (own_z ho354.1) (by decide) rfl; rw [show F320 (pg) ((3 : Nat) : Int) = F (pg) (3 : Int) from ((show F320 (pg) (3 : Int) = F283 (pg) (3 : Int) from hM324 _ _ ho310.1 (own_z ho310.1) (by rw [ho310.2]; rfl)).trans ((show F283 (pg) (3 : Int) = F237 (pg) (3 : Int) from hM286 _ _ ho269.1 (own_z ho269.1) (by rw [ho269.2]; rfl)).trans ((show F237 (pg) (3 : Int) = F20 (pg) (3 : Int) from hM241 _ _ ho47.1 (own_z ho47.1) (by rw [ho47.2]; rfl)).trans ((show F20 (pg) (3 : Int) = Fx (pg) (3 : Int) from hM23 _ _ ho4.1 (own_z ho4.1) (by rw [ho4.2]; rfl)).trans (show Fx (pg) (3 : Int) = F (pg) (3 : Int) from hMx _ _ o_pg (own_z o_pg) (by rw [t_pg]; rfl))))))] at z; exact ⟨z.1, z.2.1, z.2.2.1⟩
                  have ly382 : ln319 (F (pg) (3 : Int)) = 6 := y382.2.2 (by decide)
                  refine jx_ld (pc_q := 194) (l_q := L358) (st_q := [.int (i32 (r238)), rv (F (pg) (3 : Int))]) rfl (jl_iloadn g362) ?_
                  refine jx_ld (pc_q := 196) (l_q := L358) (st_q := [rv (r321), .int (i32 (r238)), rv (F (pg) (3 : Int))]) rfl (jl_rv g363) ?_
                  have b383 := HC_l hC323 y382.1 y382.2.1 (by decide)
                  refine cx_aas (pc_q := 197) (c := 7) (z := r238) (y := r321) rfl rfl y382.1 (by rw [y382.2.1]; decide) (by omega) (by omega) (by omega) (fun hz => (Or.inr ⟨b325.1, b325.2⟩).resolve_left hz) (by decide) (by rw [y382.2.1]; rfl) ?_
                  obtain ⟨F384, eF384⟩ : ∃ q, q = uF F320 (F (pg) (3 : Int)) (r238) (r321) := ⟨_, rfl⟩
                  rw [← eF384]
                  have hC385 : HC 0 m319 tg319 ln319 F384 := by rw [eF384]; exact HC_pa hC323 y382.1 y382.2.1 (by decide) (by omega) (Or.inr ⟨b325.1, b325.2⟩)
                  have hM386 : Fq 0 [(7, 15), (9, 2), (9, 3), (10, 0), (10, 1), (10, 2), (10, 7), (10, 8), (10, 9), (11, 8), (11, 12), (11, 13), (11, 14), (11, 15), (11, 16), (11, 17), (11, 18), (24, -5), (26, -5)] m tg F F384 := by rw [eF384]; exact Fq_p hM350 y382.2.1 (fun w => (hX355.2 _ w).1) (inL_a rfl (by omega) rfl)
                  have c387 : NP m319 tg319 F384 := by rw [eF384]; exact NP_rt hC323 c338 y382.2.1 (show F320 (F (pg) (3 : Int)) (-1) = 0 by have z := HC_n (c := 9) (q := 3) hC323 ho354.1 ho354.2 (own_z ho354.1) (by decide) rfl; rw [show F320 (pg) ((3 : Nat) : Int) = F (pg) (3 : Int) from ((show F320 (pg) (3 : Int) = F283 (pg) (3 : Int) from hM324 _ _ ho310.1 (own_z ho310.1) (by rw [ho310.2]; rfl)).trans ((show F283 (pg) (3 : Int) = F237 (pg) (3 : Int) from hM286 _ _ ho269.1 (own_z ho269.1) (by rw [ho269.2]; rfl)).trans ((show F237 (pg) (3 : Int) = F20 (pg) (3 : Int) from hM241 _ _ ho47.1 (own_z ho47.1) (by rw [ho47.2]; rfl)).trans ((show F20 (pg) (3 : Int) = Fx (pg) (3 : Int) from hM23 _ _ ho4.1 (own_z ho4.1) (by rw [ho4.2]; rfl)).trans (show Fx (pg) (3 : Int) = F (pg) (3 : Int) from hMx _ _ o_pg (own_z o_pg) (by rw [t_pg]; rfl))))))] at z; exact z.2.2.2 (by decide)) (by omega) (SN_i b325.1 b325.2 (by omega) (by omega) (by omega))
                  have c388 : CR m319 tg319 F384 (F pg (3 : Int)) ((cr + k) + 1) := by rw [eF384]; exact CR_p c357
                  refine jx_inc (pc_q := 200) (l_q := jSto1 L358 1 (.int (i32 (k + (1))))) (x := k) rfl g360 (by decide) rfl rfl ?_
                  obtain ⟨L389, eL389⟩ : ∃ q : jL, q = jSto1 L358 1 (.int (i32 ((k + (1))))) := ⟨_, rfl⟩
                  rw [← eL389]
                  have g390 : jGet L389 0 = some (rv (me)) := eL389 ▸ jg_nr (by decide) g359
                  have g391 : jGet L389 2 = some (.int (i32 (0))) := eL389 ▸ jg_ne (by decide) g361 rfl
                  have g392 : jGet L389 3 = some (.int (i32 (r238))) := eL389 ▸ jg_ne (by decide) g362 rfl
                  have g393 : jGet L389 4 = some (rv (r321)) := eL389 ▸ jg_nr (by decide) g363
                  have g394 : jGet L389 1 = some (.int (i32 ((k + (1))))) := eL389 ▸ jg_eq
                  clear eL389
                  refine jx_go (tg := 69) rfl rfl ?_
                  have q395 : F384 (sc) (8 : Int) = F320 (sc) (8 : Int) := (show F384 (sc) (8 : Int) = F320 (sc) (8 : Int) from by rw [eF384]; exact uF_a (fun w => by have q1 := ho353.2; have q2 := y382.2.1; rw [w, q2] at q1; exact absurd q1 (by decide)))
                  have q396 : F384 (sc) (15 : Int) = F320 (sc) (15 : Int) := (show F384 (sc) (15 : Int) = F320 (sc) (15 : Int) from by rw [eF384]; exact uF_a (fun w => by have q1 := ho353.2; have q2 := y382.2.1; rw [w, q2] at q1; exact absurd q1 (by decide)))
                  have q397 : tz (F384 (sc) (15 : Int)) = tz (F320 (sc) (15 : Int)) := by rw [q396]
                  have q398 := tz_b (F320 (sc) (15 : Int))
                  have q399 : F384 (sc) (14 : Int) = F320 (sc) (14 : Int) := (show F384 (sc) (14 : Int) = F320 (sc) (14 : Int) from by rw [eF384]; exact uF_a (fun w => by have q1 := ho353.2; have q2 := y382.2.1; rw [w, q2] at q1; exact absurd q1 (by decide)))
                  have q400 : lz (F384 (sc) (14 : Int)) = lz (F320 (sc) (14 : Int)) := by rw [q399]
                  have q401 := lz_b (F320 (sc) (14 : Int))
                  have q402 : F384 (pg) (9 : Int) = F320 (pg) (9 : Int) := (show F384 (pg) (9 : Int) = F320 (pg) (9 : Int) from by rw [eF384]; exact uF_a (fun w => by have q1 := ho354.2; have q2 := y382.2.1; rw [w, q2] at q1; exact absurd q1 (by decide)))
                  exact ih _ (by omega) L389 m319 tg319 ln319 F384 ((k + (1))) rfl g390 g394 hX355 hC385 hM386 (by omega) (by omega) (by omega) (by omega) (by omega) (by omega) (by omega) (by omega) (by omega) (by omega) c387 c356 (CR_m c388 (by omega))
            · have _q := h231
              exact absurd h231 (by omega)
        · have _q := h52
          refine jx_ld (pc_q := 104) (l_q := L) (st_q := [rv (me)]) rfl (jl_rvn gL_0) ?_
          refine cx_gr (pc_q := 107) (c := 8) (q := 1) (v := sc) rfl rfl (by decide) (by decide) rfl rfl ho45.1 ho45.2 (((show F20 (me) (1 : Int) = Fx (me) (1 : Int) from hM23 _ _ ho2.1 (own_z ho2.1) (by rw [ho2.2]; rfl)).trans (show Fx (me) (1 : Int) = F (me) (1 : Int) from hMx _ _ o_me (own_z o_me) (by rw [t_me]; rfl))).trans e_sc) ?_
          refine cx_gi (pc_q := 110) (c := 10) (q := 17) (v := F20 (sc) (17 : Int)) rfl rfl (by decide) (by decide) (Or.inl rfl) rfl ho46.1 ho46.2 rfl ?_
          refine jx_ar (pc_q := 112) (st_q := [.int (i32 (6)), .int (i32 (F20 (sc) (17 : Int)))]) rfl rfl rfl rfl ?_
          refine jx_icmp_ge (pc_q := 115) (tg := 137) rfl rfl rfl (by omega) (by omega) (by decide) (by decide) (fun h403 => ?_) (fun h403 => ?_)
          · have _q := h403
            refine jx_ar (pc_q := 138) (st_q := [.int (i32 (0))]) rfl rfl rfl rfl ?_
            refine jx_ld (pc_q := 139) (l_q := jSto1 L 2 (.int (i32 (0)))) (st_q := []) rfl rfl ?_
            obtain ⟨L404, eL404⟩ : ∃ q : jL, q = jSto1 L 2 (.int (i32 (0))) := ⟨_, rfl⟩
            rw [← eL404]
            have g405 : jGet L404 0 = some (rv (me)) := eL404 ▸ jg_nr (by decide) gL_0
            have g406 : jGet L404 1 = some (.int (i32 (k))) := eL404 ▸ jg_ne (by decide) gL_1 rfl
            have g407 : jGet L404 2 = some (.int (i32 (0))) := eL404 ▸ jg_eq
            clear eL404
            refine jx_ld (pc_q := 140) (l_q := L404) (st_q := [rv (me)]) rfl (jl_rvn g405) ?_
            refine cx_gr (pc_q := 143) (c := 8) (q := 1) (v := sc) rfl rfl (by decide) (by decide) rfl rfl ho45.1 ho45.2 (((show F20 (me) (1 : Int) = Fx (me) (1 : Int) from hM23 _ _ ho2.1 (own_z ho2.1) (by rw [ho2.2]; rfl)).trans (show Fx (me) (1 : Int) = F (me) (1 : Int) from hMx _ _ o_me (own_z o_me) (by rw [t_me]; rfl))).trans e_sc) ?_
            refine cx_gi (pc_q := 146) (c := 10) (q := 15) (v := F20 (sc) (15 : Int)) rfl rfl (by decide) (by decide) (Or.inl rfl) rfl ho46.1 ho46.2 rfl ?_
            have b408 : (-2147483648 : Int) ≤ F20 (sc) (15 : Int) ∧ F20 (sc) (15 : Int) ≤ 2147483647 := by have z := HC_i (c := 10) (q := 15) hC22 ho46.1 ho46.2 (by decide) rfl; rw [show F20 (sc) ((15 : Nat) : Int) = F20 (sc) (15 : Int) from rfl] at z; exact z
            refine jx_ar (pc_q := 147) (st_q := [.int (i32 (3)), .int (i32 (F20 (sc) (15 : Int)))]) rfl rfl rfl rfl ?_
            refine jx_icmp_ne (pc_q := 150) (tg := 158) rfl rfl rfl (by omega) (by omega) (by decide) (by decide) (fun h409 => ?_) (fun h409 => ?_)
            · have _q := h409
              refine jx_ld (pc_q := 159) (l_q := L404) (st_q := [rv (me)]) rfl (jl_rvn g405) ?_
              refine jx_ar (pc_q := 160) (st_q := [.int (i32 (0)), rv (me)]) rfl rfl rfl rfl ?_
              refine jx_ar (pc_q := 161) (st_q := [.int (i32 (5)), .int (i32 (0)), rv (me)]) rfl rfl rfl rfl ?_
              have q410 := tz_b (F20 (sc) (15 : Int))
              have q411 : F20 (sc) (7 : Int) = F (sc) (7 : Int) := ((show F20 (sc) (7 : Int) = Fx (sc) (7 : Int) from hM23 _ _ ho3.1 (own_z ho3.1) (by rw [ho3.2]; rfl)).trans (show Fx (sc) (7 : Int) = F (sc) (7 : Int) from hMx _ _ o_sc (own_z o_sc) (by rw [t_sc]; rfl)))
              have q412 := lz_b (F20 (sc) (14 : Int))
              have q413 : F20 (pg) (9 : Int) = Fx (pg) (9 : Int) := (show F20 (pg) (9 : Int) = Fx (pg) (9 : Int) from hM23 _ _ ho4.1 (own_z ho4.1) (by rw [ho4.2]; rfl))
              refine cx_vi (c := 8) (a := me) (st := []) (as := [.int (i32 (0)), .int (i32 (5))]) rfl rfl rfl ho45.1 ho45.2 (by decide) rfl ⟨rfl, rfl, (Nat.le_of_ble_eq_true rfl)⟩ rfl (k_LParser_readNumber (dd := d) (R := R) (m := m19) (tg := tg19) (ln := ln19) (F := F20) (me := me) (le := 0) (mo := 5) (hd := by omega) (hC := hC22) (o_me := ho45.1) (t_me := ho45.2) (h_le := by omega) (h_mo := by omega) (sc := sc) (pg := pg) (o_sc := ho46.1) (t_sc := ho46.2) (e_sc := (((show F20 (me) (1 : Int) = Fx (me) (1 : Int) from hM23 _ _ ho2.1 (own_z ho2.1) (by rw [ho2.2]; rfl)).trans (show Fx (me) (1 : Int) = F (me) (1 : Int) from hMx _ _ o_me (own_z o_me) (by rw [t_me]; rfl))).trans e_sc)) (o_pg := ho47.1) (t_pg := ho47.2) (e_pg := (((show F20 (me) (0 : Int) = Fx (me) (0 : Int) from hM23 _ _ ho2.1 (own_z ho2.1) (by rw [ho2.2]; rfl)).trans (show Fx (me) (0 : Int) = F (me) (0 : Int) from hMx _ _ o_me (own_z o_me) (by rw [t_me]; rfl))).trans e_pg)) (p_0 := by omega) (p_1 := by omega) (p_2 := by omega) (c_NP := c31)) (fun o V_q hq => ?_)
              obtain ⟨m414, tg414, ln414, F415, r416, rfl, rfl, hx417, hC418, hM419, b420, p421, p422, p423, p424, p425, p426, p427, p428, p429, p430, c431, c432, -⟩ | ⟨m433, tg433, ln433, F433, x433, rfl, rfl, hx433, hC433, hM433, ho433, ht433, p434, p435, p436, p437, c438, c439, -⟩ := hq
              rotate_left
              ·
                have c440 : NM m m433 tg433 := NM_t c49 hx433 c439
                have lm441 := hx433.1
                refine Or.inr (Or.inr (Or.inr ⟨_, _, rfl, cx_exc (c := 15) ho433 ht433 (by decide), rfl, ?_⟩))
                have q442 : F20 (sc) (7 : Int) = F (sc) (7 : Int) := q411
                exact Or.inr ⟨m433, tg433, ln433, F433, x433, rfl, rfl, Ex_t hX48 hx433, hC433, Fq_t (ln := ln) (ln1 := ln19) hM43 hX48 hM433 (by decide) (Or.inl rfl), (And.intro ho433 ht433).1, (And.intro ho433 ht433).2, by omega, by omega, by omega, by omega, c438, c440, trivial⟩
              have hM443 : Fq 0 [(7, 15), (9, 2), (9, 3), (10, 0), (10, 1), (10, 2), (10, 7), (10, 8), (10, 9), (11, 8), (11, 12), (11, 13), (11, 14), (11, 15), (11, 16), (11, 17), (11, 18), (24, -5), (26, -5)] m tg F F415 := Fq_t (ln := ln) (ln1 := ln19) hM43 hX48 hM419 (by decide) (Or.inl rfl)
              have lm444 := hx417.1
              have ho445 : own m414 (me) ∧ tg414 (me) = 9 := Ex_o hx417 ⟨ho45.1, ho45.2⟩
              have ho446 : own m414 (sc) ∧ tg414 (sc) = 11 := Ex_o hx417 ⟨ho46.1, ho46.2⟩
              have ho447 : own m414 (pg) ∧ tg414 (pg) = 10 := Ex_o hx417 ⟨ho47.1, ho47.2⟩
              have hX448 := Ex_t hX48 hx417
              have c449 : NM m m414 tg414 := NM_t c49 hx417 c432
              have c450 : CR m414 tg414 F415 (F pg (3 : Int)) (cr + k) := CR_x c50 hx417 hM419 rfl
              refine Or.inr (Or.inl ⟨_, rfl, ?_⟩)
              refine jx_ld (pc_q := 165) (l_q := jSto1 L404 3 (.int (i32 (r416)))) (st_q := []) rfl rfl ?_
              obtain ⟨L451, eL451⟩ : ∃ q : jL, q = jSto1 L404 3 (.int (i32 (r416))) := ⟨_, rfl⟩
              rw [← eL451]
              have g452 : jGet L451 0 = some (rv (me)) := eL451 ▸ jg_nr (by decide) g405
              have g453 : jGet L451 1 = some (.int (i32 (k))) := eL451 ▸ jg_ne (by decide) g406 rfl
              have g454 : jGet L451 2 = some (.int (i32 (0))) := eL451 ▸ jg_ne (by decide) g407 rfl
              have g455 : jGet L451 3 = some (.int (i32 (r416))) := eL451 ▸ jg_eq
              clear eL451
              refine jx_ld (pc_q := 166) (l_q := L451) (st_q := [rv (me)]) rfl (jl_rvn g452) ?_
              have q456 := tz_b (F415 (sc) (15 : Int))
              have q457 : F415 (sc) (7 : Int) = F (sc) (7 : Int) := ((show F415 (sc) (7 : Int) = F20 (sc) (7 : Int) from hM419 _ _ ho46.1 (own_z ho46.1) (by rw [ho46.2]; rfl)).trans q411)
              have q458 := lz_b (F415 (sc) (14 : Int))
              have q459 : F415 (pg) (9 : Int) = Fx (pg) (9 : Int) := ((show F415 (pg) (9 : Int) = F20 (pg) (9 : Int) from hM419 _ _ ho47.1 (own_z ho47.1) (by rw [ho47.2]; rfl)).trans q413)
              refine cx_vi (c := 8) (a := me) (st := []) (as := []) rfl rfl rfl ho445.1 ho445.2 (by decide) rfl ⟨rfl, rfl, (Nat.le_of_ble_eq_true rfl)⟩ rfl (k_LParser_endLine (dd := d) (R := R) (m := m414) (tg := tg414) (ln := ln414) (F := F415) (me := me) (hd := by omega) (hC := hC418) (o_me := ho445.1) (t_me := ho445.2) (sc := sc) (pg := pg) (o_sc := ho446.1) (t_sc := ho446.2) (e_sc := (((show F415 (me) (1 : Int) = F20 (me) (1 : Int) from hM419 _ _ ho45.1 (own_z ho45.1) (by rw [ho45.2]; rfl)).trans ((show F20 (me) (1 : Int) = Fx (me) (1 : Int) from hM23 _ _ ho2.1 (own_z ho2.1) (by rw [ho2.2]; rfl)).trans (show Fx (me) (1 : Int) = F (me) (1 : Int) from hMx _ _ o_me (own_z o_me) (by rw [t_me]; rfl)))).trans e_sc)) (o_pg := ho447.1) (t_pg := ho447.2) (e_pg := (((show F415 (me) (0 : Int) = F20 (me) (0 : Int) from hM419 _ _ ho45.1 (own_z ho45.1) (by rw [ho45.2]; rfl)).trans ((show F20 (me) (0 : Int) = Fx (me) (0 : Int) from hM23 _ _ ho2.1 (own_z ho2.1) (by rw [ho2.2]; rfl)).trans (show Fx (me) (0 : Int) = F (me) (0 : Int) from hMx _ _ o_me (own_z o_me) (by rw [t_me]; rfl)))).trans e_pg)) (p_0 := by omega) (p_1 := by omega) (p_2 := by omega) (c_NP := c431)) (fun o V_q hq => ?_)
              obtain ⟨m460, tg460, ln460, F461, rfl, rfl, hx462, hC463, hM464, p465, p466, p467, p468, p469, p470, p471, c472, c473, -⟩ | ⟨m474, tg474, ln474, F474, x474, rfl, rfl, hx474, hC474, hM474, ho474, ht474, p475, p476, p477, p478, c479, c480, -⟩ := hq
              rotate_left
              ·
                have c481 : NM m m474 tg474 := NM_t c449 hx474 c480
                have lm482 := hx474.1
                refine Or.inr (Or.inr (Or.inr ⟨_, _, rfl, cx_exc (c := 15) ho474 ht474 (by decide), rfl, ?_⟩))
                have q483 : F415 (sc) (7 : Int) = F (sc) (7 : Int) := q457
                exact Or.inr ⟨m474, tg474, ln474, F474, x474, rfl, rfl, Ex_t hX448 hx474, hC474, Fq_t (ln := ln) (ln1 := ln414) hM443 hX448 hM474 (by decide) (Or.inl rfl), (And.intro ho474 ht474).1, (And.intro ho474 ht474).2, by omega, by omega, by omega, by omega, c479, c481, trivial⟩
              have hM484 : Fq 0 [(7, 15), (9, 2), (9, 3), (10, 0), (10, 1), (10, 2), (10, 7), (10, 8), (10, 9), (11, 8), (11, 12), (11, 13), (11, 14), (11, 15), (11, 16), (11, 17), (11, 18), (24, -5), (26, -5)] m tg F F461 := Fq_t (ln := ln) (ln1 := ln414) hM443 hX448 hM464 (by decide) (Or.inl rfl)
              have lm485 := hx462.1
              have ho486 : own m460 (me) ∧ tg460 (me) = 9 := Ex_o hx462 ⟨ho445.1, ho445.2⟩
              have ho487 : own m460 (sc) ∧ tg460 (sc) = 11 := Ex_o hx462 ⟨ho446.1, ho446.2⟩
              have ho488 : own m460 (pg) ∧ tg460 (pg) = 10 := Ex_o hx462 ⟨ho447.1, ho447.2⟩
              have hX489 := Ex_t hX448 hx462
              have c490 : NM m m460 tg460 := NM_t c449 hx462 c473
              have c491 : CR m460 tg460 F461 (F pg (3 : Int)) (cr + k) := CR_x c450 hx462 hM464 rfl
              refine Or.inl ⟨rfl, ?_⟩
              refine jx_ld (pc_q := 170) (l_q := L451) (st_q := [rv (me)]) rfl (jl_rvn g452) ?_
              refine jx_ar (pc_q := 171) (st_q := [.int (i32 (2)), rv (me)]) rfl rfl rfl rfl ?_
              have q492 := tz_b (F461 (sc) (15 : Int))
              have q493 : F461 (sc) (7 : Int) = F (sc) (7 : Int) := ((show F461 (sc) (7 : Int) = F415 (sc) (7 : Int) from hM464 _ _ ho446.1 (own_z ho446.1) (by rw [ho446.2]; rfl)).trans q457)
              have q494 := lz_b (F461 (sc) (14 : Int))
              have q495 : F461 (pg) (9 : Int) = Fx (pg) (9 : Int) := ((show F461 (pg) (9 : Int) = F415 (pg) (9 : Int) from hM464 _ _ ho447.1 (own_z ho447.1) (by rw [ho447.2]; rfl)).trans q459)
              have q496 : F461 (me) (2 : Int) = Fx (me) (2 : Int) := ((show F461 (me) (2 : Int) = F415 (me) (2 : Int) from hM464 _ _ ho445.1 (own_z ho445.1) (by rw [ho445.2]; rfl)).trans ((show F415 (me) (2 : Int) = F20 (me) (2 : Int) from hM419 _ _ ho45.1 (own_z ho45.1) (by rw [ho45.2]; rfl)).trans (show F20 (me) (2 : Int) = Fx (me) (2 : Int) from hM23 _ _ ho2.1 (own_z ho2.1) (by rw [ho2.2]; rfl))))
              refine cx_vi (c := 8) (a := me) (st := []) (as := [.int (i32 (2))]) rfl rfl rfl ho486.1 ho486.2 (by decide) rfl ⟨rfl, rfl, (Nat.le_of_ble_eq_true rfl)⟩ rfl (PPx_all X 18 (dd := d) (R := R) (m := m460) (tg := tg460) (ln := ln460) (F := F461) (me := me) (lv := 2) (hd := by omega) (hC := hC463) (o_me := ho486.1) (t_me := ho486.2) (h_lv := by omega) (sc := sc) (pg := pg) (o_sc := ho487.1) (t_sc := ho487.2) (e_sc := (((show F461 (me) (1 : Int) = F415 (me) (1 : Int) from hM464 _ _ ho445.1 (own_z ho445.1) (by rw [ho445.2]; rfl)).trans ((show F415 (me) (1 : Int) = F20 (me) (1 : Int) from hM419 _ _ ho45.1 (own_z ho45.1) (by rw [ho45.2]; rfl)).trans ((show F20 (me) (1 : Int) = Fx (me) (1 : Int) from hM23 _ _ ho2.1 (own_z ho2.1) (by rw [ho2.2]; rfl)).trans (show Fx (me) (1 : Int) = F (me) (1 : Int) from hMx _ _ o_me (own_z o_me) (by rw [t_me]; rfl))))).trans e_sc)) (o_pg := ho488.1) (t_pg := ho488.2) (e_pg := (((show F461 (me) (0 : Int) = F415 (me) (0 : Int) from hM464 _ _ ho445.1 (own_z ho445.1) (by rw [ho445.2]; rfl)).trans ((show F415 (me) (0 : Int) = F20 (me) (0 : Int) from hM419 _ _ ho45.1 (own_z ho45.1) (by rw [ho45.2]; rfl)).trans ((show F20 (me) (0 : Int) = Fx (me) (0 : Int) from hM23 _ _ ho2.1 (own_z ho2.1) (by rw [ho2.2]; rfl)).trans (show Fx (me) (0 : Int) = F (me) (0 : Int) from hMx _ _ o_me (own_z o_me) (by rw [t_me]; rfl))))).trans e_pg)) (p_0 := by omega) (p_1 := by omega) (p_2 := by omega) (p_3 := by omega) (c_NP := c472)) (fun o V_q hq => ?_)
              obtain ⟨m497, tg497, ln497, F498, r499, rfl, rfl, hx500, hC501, hM502, b503, p504, p505, p506, p507, p508, p509, p510, p511, p512, p513, p514, p515, c516, c517, -⟩ | ⟨m518, tg518, ln518, F518, x518, rfl, rfl, hx518, hC518, hM518, ho518, ht518, p519, p520, p521, p522, c523, c524, -⟩ := hq
              rotate_left
              ·
                have c525 : NM m m518 tg518 := NM_t c490 hx518 c524
                have lm526 := hx518.1
                refine Or.inr (Or.inr (Or.inr ⟨_, _, rfl, cx_exc (c := 15) ho518 ht518 (by decide), rfl, ?_⟩))
                have q527 : F461 (sc) (7 : Int) = F (sc) (7 : Int) := q493
                exact Or.inr ⟨m518, tg518, ln518, F518, x518, rfl, rfl, Ex_t hX489 hx518, hC518, Fq_t (ln := ln) (ln1 := ln460) hM484 hX489 hM518 (by decide) (Or.inl rfl), (And.intro ho518 ht518).1, (And.intro ho518 ht518).2, by omega, by omega, by omega, by omega, c523, c525, trivial⟩
              have hM528 : Fq 0 [(7, 15), (9, 2), (9, 3), (10, 0), (10, 1), (10, 2), (10, 7), (10, 8), (10, 9), (11, 8), (11, 12), (11, 13), (11, 14), (11, 15), (11, 16), (11, 17), (11, 18), (24, -5), (26, -5)] m tg F F498 := Fq_t (ln := ln) (ln1 := ln460) hM484 hX489 hM502 (by decide) (Or.inl rfl)
              have lm529 := hx500.1
              have ho530 : own m497 (me) ∧ tg497 (me) = 9 := Ex_o hx500 ⟨ho486.1, ho486.2⟩
              have ho531 : own m497 (sc) ∧ tg497 (sc) = 11 := Ex_o hx500 ⟨ho487.1, ho487.2⟩
              have ho532 : own m497 (pg) ∧ tg497 (pg) = 10 := Ex_o hx500 ⟨ho488.1, ho488.2⟩
              have hX533 := Ex_t hX489 hx500
              have c534 : NM m m497 tg497 := NM_t c490 hx500 c517
              have c535 : CR m497 tg497 F498 (F pg (3 : Int)) (cr + k) := CR_x c491 hx500 hM502 rfl
              refine Or.inr (Or.inl ⟨_, rfl, ?_⟩)
              have rl : r499 < 64 + (m497 : Int) := b503.1.2.1
              refine jx_ld (pc_q := 176) (l_q := jSto1 L451 4 (rv (r499))) (st_q := []) rfl (js_rv (by decide)) ?_
              obtain ⟨L536, eL536⟩ : ∃ q : jL, q = jSto1 L451 4 (rv (r499)) := ⟨_, rfl⟩
              rw [← eL536]
              have g537 : jGet L536 0 = some (rv (me)) := eL536 ▸ jg_nr (by decide) g452
              have g538 : jGet L536 1 = some (.int (i32 (k))) := eL536 ▸ jg_ne (by decide) g453 rfl
              have g539 : jGet L536 2 = some (.int (i32 (0))) := eL536 ▸ jg_ne (by decide) g454 rfl
              have g540 : jGet L536 3 = some (.int (i32 (r416))) := eL536 ▸ jg_ne (by decide) g455 rfl
              have g541 : jGet L536 4 = some (rv (r499)) := eL536 ▸ jg_eq
              clear eL536
              refine jx_ld (pc_q := 177) (l_q := L536) (st_q := [.int (i32 (r416))]) rfl (jl_iloadn g540) ?_
              refine jx_if_lt (pc_q := 180) (tg := 197) rfl rfl rfl (by omega) (by omega) (fun h542 => ?_) (fun h542 => ?_)
              · have _q := h542
                refine jx_inc (pc_q := 200) (l_q := jSto1 L536 1 (.int (i32 (k + (1))))) (x := k) rfl g538 (by decide) rfl rfl ?_
                obtain ⟨L543, eL543⟩ : ∃ q : jL, q = jSto1 L536 1 (.int (i32 ((k + (1))))) := ⟨_, rfl⟩
                rw [← eL543]
                have g544 : jGet L543 0 = some (rv (me)) := eL543 ▸ jg_nr (by decide) g537
                have g545 : jGet L543 2 = some (.int (i32 (0))) := eL543 ▸ jg_ne (by decide) g539 rfl
                have g546 : jGet L543 3 = some (.int (i32 (r416))) := eL543 ▸ jg_ne (by decide) g540 rfl
                have g547 : jGet L543 4 = some (rv (r499)) := eL543 ▸ jg_nr (by decide) g541
                have g548 : jGet L543 1 = some (.int (i32 ((k + (1))))) := eL543 ▸ jg_eq
                clear eL543
                refine jx_go (tg := 69) rfl rfl ?_
                have q549 := tz_b (F498 (sc) (15 : Int))
                have q550 := lz_b (F498 (sc) (14 : Int))
                exact ih _ (by omega) L543 m497 tg497 ln497 F498 ((k + (1))) rfl g544 g548 hX533 hC501 hM528 (by omega) (by omega) (by omega) (by omega) (by omega) (by omega) (by omega) (by omega) (by omega) (by omega) c516 c534 (CR_m c535 (by omega))
              · have _q := h542
                refine jx_ld (pc_q := 181) (l_q := L536) (st_q := [.int (i32 (r416))]) rfl (jl_iloadn g540) ?_
                refine jx_ar (pc_q := 183) (st_q := [.int (i32 (6)), .int (i32 (r416))]) rfl rfl rfl rfl ?_
                refine jx_icmp_ge (pc_q := 186) (tg := 197) rfl rfl rfl (by omega) (by omega) (by decide) (by decide) (fun h551 => ?_) (fun h551 => ?_)
                · have _q := h551
                  refine jx_inc (pc_q := 200) (l_q := jSto1 L536 1 (.int (i32 (k + (1))))) (x := k) rfl g538 (by decide) rfl rfl ?_
                  obtain ⟨L552, eL552⟩ : ∃ q : jL, q = jSto1 L536 1 (.int (i32 ((k + (1))))) := ⟨_, rfl⟩
                  rw [← eL552]
                  have g553 : jGet L552 0 = some (rv (me)) := eL552 ▸ jg_nr (by decide) g537
                  have g554 : jGet L552 2 = some (.int (i32 (0))) := eL552 ▸ jg_ne (by decide) g539 rfl
                  have g555 : jGet L552 3 = some (.int (i32 (r416))) := eL552 ▸ jg_ne (by decide) g540 rfl
                  have g556 : jGet L552 4 = some (rv (r499)) := eL552 ▸ jg_nr (by decide) g541
                  have g557 : jGet L552 1 = some (.int (i32 ((k + (1))))) := eL552 ▸ jg_eq
                  clear eL552
                  refine jx_go (tg := 69) rfl rfl ?_
                  have q558 := tz_b (F498 (sc) (15 : Int))
                  have q559 := lz_b (F498 (sc) (14 : Int))
                  exact ih _ (by omega) L552 m497 tg497 ln497 F498 ((k + (1))) rfl g553 g557 hX533 hC501 hM528 (by omega) (by omega) (by omega) (by omega) (by omega) (by omega) (by omega) (by omega) (by omega) (by omega) c516 c534 (CR_m c535 (by omega))
                · have _q := h551
                  refine jx_ld (pc_q := 187) (l_q := L536) (st_q := [rv (me)]) rfl (jl_rvn g537) ?_
                  refine cx_gr (pc_q := 190) (c := 8) (q := 0) (v := pg) rfl rfl (by decide) (by decide) rfl rfl ho530.1 ho530.2 (((show F498 (me) (0 : Int) = F461 (me) (0 : Int) from hM502 _ _ ho486.1 (own_z ho486.1) (by rw [ho486.2]; rfl)).trans ((show F461 (me) (0 : Int) = F415 (me) (0 : Int) from hM464 _ _ ho445.1 (own_z ho445.1) (by rw [ho445.2]; rfl)).trans ((show F415 (me) (0 : Int) = F20 (me) (0 : Int) from hM419 _ _ ho45.1 (own_z ho45.1) (by rw [ho45.2]; rfl)).trans ((show F20 (me) (0 : Int) = Fx (me) (0 : Int) from hM23 _ _ ho2.1 (own_z ho2.1) (by rw [ho2.2]; rfl)).trans (show Fx (me) (0 : Int) = F (me) (0 : Int) from hMx _ _ o_me (own_z o_me) (by rw [t_me]; rfl)))))).trans e_pg) ?_
                  refine cx_gr (pc_q := 193) (c := 9) (q := 3) (v := F (pg) (3 : Int)) rfl rfl (by decide) (by decide) rfl rfl ho532.1 ho532.2 ((show F498 (pg) (3 : Int) = F461 (pg) (3 : Int) from hM502 _ _ ho488.1 (own_z ho488.1) (by rw [ho488.2]; rfl)).trans ((show F461 (pg) (3 : Int) = F415 (pg) (3 : Int) from hM464 _ _ ho447.1 (own_z ho447.1) (by rw [ho447.2]; rfl)).trans ((show F415 (pg) (3 : Int) = F20 (pg) (3 : Int) from hM419 _ _ ho47.1 (own_z ho47.1) (by rw [ho47.2]; rfl)).trans ((show F20 (pg) (3 : Int) = Fx (pg) (3 : Int) from hM23 _ _ ho4.1 (own_z ho4.1) (by rw [ho4.2]; rfl)).trans (show Fx (pg) (3 : Int) = F (pg) (3 : Int) from hMx _ _ o_pg (own_z o_pg) (by rw [t_pg]; rfl)))))) ?_
                  have y560 : own m497 (F (pg) (3 : Int)) ∧ tg497 (F (pg) (3 : Int)) = 24 ∧ ((6 : Int) ≠ 0 → ln497 (F (pg) (3 : Int)) = 6) := by have z := HC_n (c := 9) (q := 3) hC501 ho532.1 ho532.2 (own_z ho532.1) (by decide) rfl; rw [show F498 (pg) ((3 : Nat) : Int) = F (pg) (3 : Int) from ((show F498 (pg) (3 : Int) = F461 (pg) (3 : Int) from hM502 _ _ ho488.1 (own_z ho488.1) (by rw [ho488.2]; rfl)).trans ((show F461 (pg) (3 : Int) = F415 (pg) (3 : Int) from hM464 _ _ ho447.1 (own_z ho447.1) (by rw [ho447.2]; rfl)).trans ((show F415 (pg) (3 : Int) = F20 (pg) (3 : Int) from hM419 _ _ ho47.1 (own_z ho47.1) (by rw [ho47.2]; rfl)).trans ((show F20 (pg) (3 : Int) = Fx (pg) (3 : Int) from hM23 _ _ ho4.1 (own_z ho4.1) (by rw [ho4.2]; rfl)).trans (show Fx (pg) (3 : Int) = F (pg) (3 : Int) from hMx _ _ o_pg (own_z o_pg) (by rw [t_pg]; rfl))))))] at z; exact ⟨z.1, z.2.1, z.2.2.1⟩
                  have ly560 : ln497 (F (pg) (3 : Int)) = 6 := y560.2.2 (by decide)
                  refine jx_ld (pc_q := 194) (l_q := L536) (st_q := [.int (i32 (r416)), rv (F (pg) (3 : Int))]) rfl (jl_iloadn g540) ?_
                  refine jx_ld (pc_q := 196) (l_q := L536) (st_q := [rv (r499), .int (i32 (r416)), rv (F (pg) (3 : Int))]) rfl (jl_rv g541) ?_
                  have b561 := HC_l hC501 y560.1 y560.2.1 (by decide)
                  refine cx_aas (pc_q := 197) (c := 7) (z := r416) (y := r499) rfl rfl y560.1 (by rw [y560.2.1]; decide) (by omega) (by omega) (by omega) (fun hz => (Or.inr ⟨b503.1, b503.2⟩).resolve_left hz) (by decide) (by rw [y560.2.1]; rfl) ?_
                  obtain ⟨F562, eF562⟩ : ∃ q, q = uF F498 (F (pg) (3 : Int)) (r416) (r499) := ⟨_, rfl⟩
                  rw [← eF562]
                  have hC563 : HC 0 m497 tg497 ln497 F562 := by rw [eF562]; exact HC_pa hC501 y560.1 y560.2.1 (by decide) (by omega) (Or.inr ⟨b503.1, b503.2⟩)
                  have hM564 : Fq 0 [(7, 15), (9, 2), (9, 3), (10, 0), (10, 1), (10, 2), (10, 7), (10, 8), (10, 9), (11, 8), (11, 12), (11, 13), (11, 14), (11, 15), (11, 16), (11, 17), (11, 18), (24, -5), (26, -5)] m tg F F562 := by rw [eF562]; exact Fq_p hM528 y560.2.1 (fun w => (hX533.2 _ w).1) (inL_a rfl (by omega) rfl)
                  have c565 : NP m497 tg497 F562 := by rw [eF562]; exact NP_rt hC501 c516 y560.2.1 (show F498 (F (pg) (3 : Int)) (-1) = 0 by have z := HC_n (c := 9) (q := 3) hC501 ho532.1 ho532.2 (own_z ho532.1) (by decide) rfl; rw [show F498 (pg) ((3 : Nat) : Int) = F (pg) (3 : Int) from ((show F498 (pg) (3 : Int) = F461 (pg) (3 : Int) from hM502 _ _ ho488.1 (own_z ho488.1) (by rw [ho488.2]; rfl)).trans ((show F461 (pg) (3 : Int) = F415 (pg) (3 : Int) from hM464 _ _ ho447.1 (own_z ho447.1) (by rw [ho447.2]; rfl)).trans ((show F415 (pg) (3 : Int) = F20 (pg) (3 : Int) from hM419 _ _ ho47.1 (own_z ho47.1) (by rw [ho47.2]; rfl)).trans ((show F20 (pg) (3 : Int) = Fx (pg) (3 : Int) from hM23 _ _ ho4.1 (own_z ho4.1) (by rw [ho4.2]; rfl)).trans (show Fx (pg) (3 : Int) = F (pg) (3 : Int) from hMx _ _ o_pg (own_z o_pg) (by rw [t_pg]; rfl))))))] at z; exact z.2.2.2 (by decide)) (by omega) (SN_i b503.1 b503.2 (by omega) (by omega) (by omega))
                  have c566 : CR m497 tg497 F562 (F pg (3 : Int)) ((cr + k) + 1) := by rw [eF562]; exact CR_p c535
                  refine jx_inc (pc_q := 200) (l_q := jSto1 L536 1 (.int (i32 (k + (1))))) (x := k) rfl g538 (by decide) rfl rfl ?_
                  obtain ⟨L567, eL567⟩ : ∃ q : jL, q = jSto1 L536 1 (.int (i32 ((k + (1))))) := ⟨_, rfl⟩
                  rw [← eL567]
                  have g568 : jGet L567 0 = some (rv (me)) := eL567 ▸ jg_nr (by decide) g537
                  have g569 : jGet L567 2 = some (.int (i32 (0))) := eL567 ▸ jg_ne (by decide) g539 rfl
                  have g570 : jGet L567 3 = some (.int (i32 (r416))) := eL567 ▸ jg_ne (by decide) g540 rfl
                  have g571 : jGet L567 4 = some (rv (r499)) := eL567 ▸ jg_nr (by decide) g541
                  have g572 : jGet L567 1 = some (.int (i32 ((k + (1))))) := eL567 ▸ jg_eq
                  clear eL567
                  refine jx_go (tg := 69) rfl rfl ?_
                  have q573 : F562 (sc) (8 : Int) = F498 (sc) (8 : Int) := (show F562 (sc) (8 : Int) = F498 (sc) (8 : Int) from by rw [eF562]; exact uF_a (fun w => by have q1 := ho531.2; have q2 := y560.2.1; rw [w, q2] at q1; exact absurd q1 (by decide)))
                  have q574 : F562 (sc) (15 : Int) = F498 (sc) (15 : Int) := (show F562 (sc) (15 : Int) = F498 (sc) (15 : Int) from by rw [eF562]; exact uF_a (fun w => by have q1 := ho531.2; have q2 := y560.2.1; rw [w, q2] at q1; exact absurd q1 (by decide)))
                  have q575 : tz (F562 (sc) (15 : Int)) = tz (F498 (sc) (15 : Int)) := by rw [q574]
                  have q576 := tz_b (F498 (sc) (15 : Int))
                  have q577 : F562 (sc) (14 : Int) = F498 (sc) (14 : Int) := (show F562 (sc) (14 : Int) = F498 (sc) (14 : Int) from by rw [eF562]; exact uF_a (fun w => by have q1 := ho531.2; have q2 := y560.2.1; rw [w, q2] at q1; exact absurd q1 (by decide)))
                  have q578 : lz (F562 (sc) (14 : Int)) = lz (F498 (sc) (14 : Int)) := by rw [q577]
                  have q579 := lz_b (F498 (sc) (14 : Int))
                  have q580 : F562 (pg) (9 : Int) = F498 (pg) (9 : Int) := (show F562 (pg) (9 : Int) = F498 (pg) (9 : Int) from by rw [eF562]; exact uF_a (fun w => by have q1 := ho532.2; have q2 := y560.2.1; rw [w, q2] at q1; exact absurd q1 (by decide)))
                  exact ih _ (by omega) L567 m497 tg497 ln497 F562 ((k + (1))) rfl g568 g572 hX533 hC563 hM564 (by omega) (by omega) (by omega) (by omega) (by omega) (by omega) (by omega) (by omega) (by omega) (by omega) c565 c534 (CR_m c566 (by omega))
            · have _q := h409
              have t581 : tz (F20 (sc) (15 : Int)) = 1 := tz_p (by omega)
              refine jx_ld (pc_q := 151) (l_q := L404) (st_q := [.int (i32 (0))]) rfl (jl_iloadn g407) ?_
              refine jx_if_eq (pc_q := 154) (tg := 158) rfl rfl rfl (by decide) (by decide) (fun h582 => ?_) (fun h582 => ?_)
              · have _q := h582
                refine jx_ld (pc_q := 159) (l_q := L404) (st_q := [rv (me)]) rfl (jl_rvn g405) ?_
                refine jx_ar (pc_q := 160) (st_q := [.int (i32 (0)), rv (me)]) rfl rfl rfl rfl ?_
                refine jx_ar (pc_q := 161) (st_q := [.int (i32 (5)), .int (i32 (0)), rv (me)]) rfl rfl rfl rfl ?_
                have q583 := tz_b (F20 (sc) (15 : Int))
                have q584 : F20 (sc) (7 : Int) = F (sc) (7 : Int) := ((show F20 (sc) (7 : Int) = Fx (sc) (7 : Int) from hM23 _ _ ho3.1 (own_z ho3.1) (by rw [ho3.2]; rfl)).trans (show Fx (sc) (7 : Int) = F (sc) (7 : Int) from hMx _ _ o_sc (own_z o_sc) (by rw [t_sc]; rfl)))
                have q585 := lz_b (F20 (sc) (14 : Int))
                have q586 : F20 (pg) (9 : Int) = Fx (pg) (9 : Int) := (show F20 (pg) (9 : Int) = Fx (pg) (9 : Int) from hM23 _ _ ho4.1 (own_z ho4.1) (by rw [ho4.2]; rfl))
                refine cx_vi (c := 8) (a := me) (st := []) (as := [.int (i32 (0)), .int (i32 (5))]) rfl rfl rfl ho45.1 ho45.2 (by decide) rfl ⟨rfl, rfl, (Nat.le_of_ble_eq_true rfl)⟩ rfl (k_LParser_readNumber (dd := d) (R := R) (m := m19) (tg := tg19) (ln := ln19) (F := F20) (me := me) (le := 0) (mo := 5) (hd := by omega) (hC := hC22) (o_me := ho45.1) (t_me := ho45.2) (h_le := by omega) (h_mo := by omega) (sc := sc) (pg := pg) (o_sc := ho46.1) (t_sc := ho46.2) (e_sc := (((show F20 (me) (1 : Int) = Fx (me) (1 : Int) from hM23 _ _ ho2.1 (own_z ho2.1) (by rw [ho2.2]; rfl)).trans (show Fx (me) (1 : Int) = F (me) (1 : Int) from hMx _ _ o_me (own_z o_me) (by rw [t_me]; rfl))).trans e_sc)) (o_pg := ho47.1) (t_pg := ho47.2) (e_pg := (((show F20 (me) (0 : Int) = Fx (me) (0 : Int) from hM23 _ _ ho2.1 (own_z ho2.1) (by rw [ho2.2]; rfl)).trans (show Fx (me) (0 : Int) = F (me) (0 : Int) from hMx _ _ o_me (own_z o_me) (by rw [t_me]; rfl))).trans e_pg)) (p_0 := by omega) (p_1 := by omega) (p_2 := by omega) (c_NP := c31)) (fun o V_q hq => ?_)
                obtain ⟨m587, tg587, ln587, F588, r589, rfl, rfl, hx590, hC591, hM592, b593, p594, p595, p596, p597, p598, p599, p600, p601, p602, p603, c604, c605, -⟩ | ⟨m606, tg606, ln606, F606, x606, rfl, rfl, hx606, hC606, hM606, ho606, ht606, p607, p608, p609, p610, c611, c612, -⟩ := hq
                rotate_left
                ·
                  have c613 : NM m m606 tg606 := NM_t c49 hx606 c612
                  have lm614 := hx606.1
                  refine Or.inr (Or.inr (Or.inr ⟨_, _, rfl, cx_exc (c := 15) ho606 ht606 (by decide), rfl, ?_⟩))
                  have q615 : F20 (sc) (7 : Int) = F (sc) (7 : Int) := q584
                  exact Or.inr ⟨m606, tg606, ln606, F606, x606, rfl, rfl, Ex_t hX48 hx606, hC606, Fq_t (ln := ln) (ln1 := ln19) hM43 hX48 hM606 (by decide) (Or.inl rfl), (And.intro ho606 ht606).1, (And.intro ho606 ht606).2, by omega, by omega, by omega, by omega, c611, c613, trivial⟩
                have hM616 : Fq 0 [(7, 15), (9, 2), (9, 3), (10, 0), (10, 1), (10, 2), (10, 7), (10, 8), (10, 9), (11, 8), (11, 12), (11, 13), (11, 14), (11, 15), (11, 16), (11, 17), (11, 18), (24, -5), (26, -5)] m tg F F588 := Fq_t (ln := ln) (ln1 := ln19) hM43 hX48 hM592 (by decide) (Or.inl rfl)
                have lm617 := hx590.1
                have ho618 : own m587 (me) ∧ tg587 (me) = 9 := Ex_o hx590 ⟨ho45.1, ho45.2⟩
                have ho619 : own m587 (sc) ∧ tg587 (sc) = 11 := Ex_o hx590 ⟨ho46.1, ho46.2⟩
                have ho620 : own m587 (pg) ∧ tg587 (pg) = 10 := Ex_o hx590 ⟨ho47.1, ho47.2⟩
                have hX621 := Ex_t hX48 hx590
                have c622 : NM m m587 tg587 := NM_t c49 hx590 c605
                have c623 : CR m587 tg587 F588 (F pg (3 : Int)) (cr + k) := CR_x c50 hx590 hM592 rfl
                refine Or.inr (Or.inl ⟨_, rfl, ?_⟩)
                refine jx_ld (pc_q := 165) (l_q := jSto1 L404 3 (.int (i32 (r589)))) (st_q := []) rfl rfl ?_
                obtain ⟨L624, eL624⟩ : ∃ q : jL, q = jSto1 L404 3 (.int (i32 (r589))) := ⟨_, rfl⟩
                rw [← eL624]
                have g625 : jGet L624 0 = some (rv (me)) := eL624 ▸ jg_nr (by decide) g405
                have g626 : jGet L624 1 = some (.int (i32 (k))) := eL624 ▸ jg_ne (by decide) g406 rfl
                have g627 : jGet L624 2 = some (.int (i32 (0))) := eL624 ▸ jg_ne (by decide) g407 rfl
                have g628 : jGet L624 3 = some (.int (i32 (r589))) := eL624 ▸ jg_eq
                clear eL624
                refine jx_ld (pc_q := 166) (l_q := L624) (st_q := [rv (me)]) rfl (jl_rvn g625) ?_
                have q629 := tz_b (F588 (sc) (15 : Int))
                have q630 : F588 (sc) (7 : Int) = F (sc) (7 : Int) := ((show F588 (sc) (7 : Int) = F20 (sc) (7 : Int) from hM592 _ _ ho46.1 (own_z ho46.1) (by rw [ho46.2]; rfl)).trans q584)
                have q631 := lz_b (F588 (sc) (14 : Int))
                have q632 : F588 (pg) (9 : Int) = Fx (pg) (9 : Int) := ((show F588 (pg) (9 : Int) = F20 (pg) (9 : Int) from hM592 _ _ ho47.1 (own_z ho47.1) (by rw [ho47.2]; rfl)).trans q586)
                refine cx_vi (c := 8) (a := me) (st := []) (as := []) rfl rfl rfl ho618.1 ho618.2 (by decide) rfl ⟨rfl, rfl, (Nat.le_of_ble_eq_true rfl)⟩ rfl (k_LParser_endLine (dd := d) (R := R) (m := m587) (tg := tg587) (ln := ln587) (F := F588) (me := me) (hd := by omega) (hC := hC591) (o_me := ho618.1) (t_me := ho618.2) (sc := sc) (pg := pg) (o_sc := ho619.1) (t_sc := ho619.2) (e_sc := (((show F588 (me) (1 : Int) = F20 (me) (1 : Int) from hM592 _ _ ho45.1 (own_z ho45.1) (by rw [ho45.2]; rfl)).trans ((show F20 (me) (1 : Int) = Fx (me) (1 : Int) from hM23 _ _ ho2.1 (own_z ho2.1) (by rw [ho2.2]; rfl)).trans (show Fx (me) (1 : Int) = F (me) (1 : Int) from hMx _ _ o_me (own_z o_me) (by rw [t_me]; rfl)))).trans e_sc)) (o_pg := ho620.1) (t_pg := ho620.2) (e_pg := (((show F588 (me) (0 : Int) = F20 (me) (0 : Int) from hM592 _ _ ho45.1 (own_z ho45.1) (by rw [ho45.2]; rfl)).trans ((show F20 (me) (0 : Int) = Fx (me) (0 : Int) from hM23 _ _ ho2.1 (own_z ho2.1) (by rw [ho2.2]; rfl)).trans (show Fx (me) (0 : Int) = F (me) (0 : Int) from hMx _ _ o_me (own_z o_me) (by rw [t_me]; rfl)))).trans e_pg)) (p_0 := by omega) (p_1 := by omega) (p_2 := by omega) (c_NP := c604)) (fun o V_q hq => ?_)
                obtain ⟨m633, tg633, ln633, F634, rfl, rfl, hx635, hC636, hM637, p638, p639, p640, p641, p642, p643, p644, c645, c646, -⟩ | ⟨m647, tg647, ln647, F647, x647, rfl, rfl, hx647, hC647, hM647, ho647, ht647, p648, p649, p650, p651, c652, c653, -⟩ := hq
                rotate_left
                ·
                  have c654 : NM m m647 tg647 := NM_t c622 hx647 c653
                  have lm655 := hx647.1
                  refine Or.inr (Or.inr (Or.inr ⟨_, _, rfl, cx_exc (c := 15) ho647 ht647 (by decide), rfl, ?_⟩))
                  have q656 : F588 (sc) (7 : Int) = F (sc) (7 : Int) := q630
                  exact Or.inr ⟨m647, tg647, ln647, F647, x647, rfl, rfl, Ex_t hX621 hx647, hC647, Fq_t (ln := ln) (ln1 := ln587) hM616 hX621 hM647 (by decide) (Or.inl rfl), (And.intro ho647 ht647).1, (And.intro ho647 ht647).2, by omega, by omega, by omega, by omega, c652, c654, trivial⟩
                have hM657 : Fq 0 [(7, 15), (9, 2), (9, 3), (10, 0), (10, 1), (10, 2), (10, 7), (10, 8), (10, 9), (11, 8), (11, 12), (11, 13), (11, 14), (11, 15), (11, 16), (11, 17), (11, 18), (24, -5), (26, -5)] m tg F F634 := Fq_t (ln := ln) (ln1 := ln587) hM616 hX621 hM637 (by decide) (Or.inl rfl)
                have lm658 := hx635.1
                have ho659 : own m633 (me) ∧ tg633 (me) = 9 := Ex_o hx635 ⟨ho618.1, ho618.2⟩
                have ho660 : own m633 (sc) ∧ tg633 (sc) = 11 := Ex_o hx635 ⟨ho619.1, ho619.2⟩
                have ho661 : own m633 (pg) ∧ tg633 (pg) = 10 := Ex_o hx635 ⟨ho620.1, ho620.2⟩
                have hX662 := Ex_t hX621 hx635
                have c663 : NM m m633 tg633 := NM_t c622 hx635 c646
                have c664 : CR m633 tg633 F634 (F pg (3 : Int)) (cr + k) := CR_x c623 hx635 hM637 rfl
                refine Or.inl ⟨rfl, ?_⟩
                refine jx_ld (pc_q := 170) (l_q := L624) (st_q := [rv (me)]) rfl (jl_rvn g625) ?_
                refine jx_ar (pc_q := 171) (st_q := [.int (i32 (2)), rv (me)]) rfl rfl rfl rfl ?_
                have q665 := tz_b (F634 (sc) (15 : Int))
                have q666 : F634 (sc) (7 : Int) = F (sc) (7 : Int) := ((show F634 (sc) (7 : Int) = F588 (sc) (7 : Int) from hM637 _ _ ho619.1 (own_z ho619.1) (by rw [ho619.2]; rfl)).trans q630)
                have q667 := lz_b (F634 (sc) (14 : Int))
                have q668 : F634 (pg) (9 : Int) = Fx (pg) (9 : Int) := ((show F634 (pg) (9 : Int) = F588 (pg) (9 : Int) from hM637 _ _ ho620.1 (own_z ho620.1) (by rw [ho620.2]; rfl)).trans q632)
                have q669 : F634 (me) (2 : Int) = Fx (me) (2 : Int) := ((show F634 (me) (2 : Int) = F588 (me) (2 : Int) from hM637 _ _ ho618.1 (own_z ho618.1) (by rw [ho618.2]; rfl)).trans ((show F588 (me) (2 : Int) = F20 (me) (2 : Int) from hM592 _ _ ho45.1 (own_z ho45.1) (by rw [ho45.2]; rfl)).trans (show F20 (me) (2 : Int) = Fx (me) (2 : Int) from hM23 _ _ ho2.1 (own_z ho2.1) (by rw [ho2.2]; rfl))))
                refine cx_vi (c := 8) (a := me) (st := []) (as := [.int (i32 (2))]) rfl rfl rfl ho659.1 ho659.2 (by decide) rfl ⟨rfl, rfl, (Nat.le_of_ble_eq_true rfl)⟩ rfl (PPx_all X 18 (dd := d) (R := R) (m := m633) (tg := tg633) (ln := ln633) (F := F634) (me := me) (lv := 2) (hd := by omega) (hC := hC636) (o_me := ho659.1) (t_me := ho659.2) (h_lv := by omega) (sc := sc) (pg := pg) (o_sc := ho660.1) (t_sc := ho660.2) (e_sc := (((show F634 (me) (1 : Int) = F588 (me) (1 : Int) from hM637 _ _ ho618.1 (own_z ho618.1) (by rw [ho618.2]; rfl)).trans ((show F588 (me) (1 : Int) = F20 (me) (1 : Int) from hM592 _ _ ho45.1 (own_z ho45.1) (by rw [ho45.2]; rfl)).trans ((show F20 (me) (1 : Int) = Fx (me) (1 : Int) from hM23 _ _ ho2.1 (own_z ho2.1) (by rw [ho2.2]; rfl)).trans (show Fx (me) (1 : Int) = F (me) (1 : Int) from hMx _ _ o_me (own_z o_me) (by rw [t_me]; rfl))))).trans e_sc)) (o_pg := ho661.1) (t_pg := ho661.2) (e_pg := (((show F634 (me) (0 : Int) = F588 (me) (0 : Int) from hM637 _ _ ho618.1 (own_z ho618.1) (by rw [ho618.2]; rfl)).trans ((show F588 (me) (0 : Int) = F20 (me) (0 : Int) from hM592 _ _ ho45.1 (own_z ho45.1) (by rw [ho45.2]; rfl)).trans ((show F20 (me) (0 : Int) = Fx (me) (0 : Int) from hM23 _ _ ho2.1 (own_z ho2.1) (by rw [ho2.2]; rfl)).trans (show Fx (me) (0 : Int) = F (me) (0 : Int) from hMx _ _ o_me (own_z o_me) (by rw [t_me]; rfl))))).trans e_pg)) (p_0 := by omega) (p_1 := by omega) (p_2 := by omega) (p_3 := by omega) (c_NP := c645)) (fun o V_q hq => ?_)
                obtain ⟨m670, tg670, ln670, F671, r672, rfl, rfl, hx673, hC674, hM675, b676, p677, p678, p679, p680, p681, p682, p683, p684, p685, p686, p687, p688, c689, c690, -⟩ | ⟨m691, tg691, ln691, F691, x691, rfl, rfl, hx691, hC691, hM691, ho691, ht691, p692, p693, p694, p695, c696, c697, -⟩ := hq
                rotate_left
                ·
                  have c698 : NM m m691 tg691 := NM_t c663 hx691 c697
                  have lm699 := hx691.1
                  refine Or.inr (Or.inr (Or.inr ⟨_, _, rfl, cx_exc (c := 15) ho691 ht691 (by decide), rfl, ?_⟩))
                  have q700 : F634 (sc) (7 : Int) = F (sc) (7 : Int) := q666
                  exact Or.inr ⟨m691, tg691, ln691, F691, x691, rfl, rfl, Ex_t hX662 hx691, hC691, Fq_t (ln := ln) (ln1 := ln633) hM657 hX662 hM691 (by decide) (Or.inl rfl), (And.intro ho691 ht691).1, (And.intro ho691 ht691).2, by omega, by omega, by omega, by omega, c696, c698, trivial⟩
                have hM701 : Fq 0 [(7, 15), (9, 2), (9, 3), (10, 0), (10, 1), (10, 2), (10, 7), (10, 8), (10, 9), (11, 8), (11, 12), (11, 13), (11, 14), (11, 15), (11, 16), (11, 17), (11, 18), (24, -5), (26, -5)] m tg F F671 := Fq_t (ln := ln) (ln1 := ln633) hM657 hX662 hM675 (by decide) (Or.inl rfl)
                have lm702 := hx673.1
                have ho703 : own m670 (me) ∧ tg670 (me) = 9 := Ex_o hx673 ⟨ho659.1, ho659.2⟩
                have ho704 : own m670 (sc) ∧ tg670 (sc) = 11 := Ex_o hx673 ⟨ho660.1, ho660.2⟩
                have ho705 : own m670 (pg) ∧ tg670 (pg) = 10 := Ex_o hx673 ⟨ho661.1, ho661.2⟩
                have hX706 := Ex_t hX662 hx673
                have c707 : NM m m670 tg670 := NM_t c663 hx673 c690
                have c708 : CR m670 tg670 F671 (F pg (3 : Int)) (cr + k) := CR_x c664 hx673 hM675 rfl
                refine Or.inr (Or.inl ⟨_, rfl, ?_⟩)
                have rl : r672 < 64 + (m670 : Int) := b676.1.2.1
                refine jx_ld (pc_q := 176) (l_q := jSto1 L624 4 (rv (r672))) (st_q := []) rfl (js_rv (by decide)) ?_
                obtain ⟨L709, eL709⟩ : ∃ q : jL, q = jSto1 L624 4 (rv (r672)) := ⟨_, rfl⟩
                rw [← eL709]
                have g710 : jGet L709 0 = some (rv (me)) := eL709 ▸ jg_nr (by decide) g625
                have g711 : jGet L709 1 = some (.int (i32 (k))) := eL709 ▸ jg_ne (by decide) g626 rfl
                have g712 : jGet L709 2 = some (.int (i32 (0))) := eL709 ▸ jg_ne (by decide) g627 rfl
                have g713 : jGet L709 3 = some (.int (i32 (r589))) := eL709 ▸ jg_ne (by decide) g628 rfl
                have g714 : jGet L709 4 = some (rv (r672)) := eL709 ▸ jg_eq
                clear eL709
                refine jx_ld (pc_q := 177) (l_q := L709) (st_q := [.int (i32 (r589))]) rfl (jl_iloadn g713) ?_
                refine jx_if_lt (pc_q := 180) (tg := 197) rfl rfl rfl (by omega) (by omega) (fun h715 => ?_) (fun h715 => ?_)
                · have _q := h715
                  refine jx_inc (pc_q := 200) (l_q := jSto1 L709 1 (.int (i32 (k + (1))))) (x := k) rfl g711 (by decide) rfl rfl ?_
                  obtain ⟨L716, eL716⟩ : ∃ q : jL, q = jSto1 L709 1 (.int (i32 ((k + (1))))) := ⟨_, rfl⟩
                  rw [← eL716]
                  have g717 : jGet L716 0 = some (rv (me)) := eL716 ▸ jg_nr (by decide) g710
                  have g718 : jGet L716 2 = some (.int (i32 (0))) := eL716 ▸ jg_ne (by decide) g712 rfl
                  have g719 : jGet L716 3 = some (.int (i32 (r589))) := eL716 ▸ jg_ne (by decide) g713 rfl
                  have g720 : jGet L716 4 = some (rv (r672)) := eL716 ▸ jg_nr (by decide) g714
                  have g721 : jGet L716 1 = some (.int (i32 ((k + (1))))) := eL716 ▸ jg_eq
                  clear eL716
                  refine jx_go (tg := 69) rfl rfl ?_
                  have q722 := tz_b (F671 (sc) (15 : Int))
                  have q723 := lz_b (F671 (sc) (14 : Int))
                  exact ih _ (by omega) L716 m670 tg670 ln670 F671 ((k + (1))) rfl g717 g721 hX706 hC674 hM701 (by omega) (by omega) (by omega) (by omega) (by omega) (by omega) (by omega) (by omega) (by omega) (by omega) c689 c707 (CR_m c708 (by omega))
                · have _q := h715
                  refine jx_ld (pc_q := 181) (l_q := L709) (st_q := [.int (i32 (r589))]) rfl (jl_iloadn g713) ?_
                  refine jx_ar (pc_q := 183) (st_q := [.int (i32 (6)), .int (i32 (r589))]) rfl rfl rfl rfl ?_
                  refine jx_icmp_ge (pc_q := 186) (tg := 197) rfl rfl rfl (by omega) (by omega) (by decide) (by decide) (fun h724 => ?_) (fun h724 => ?_)
                  · have _q := h724
                    refine jx_inc (pc_q := 200) (l_q := jSto1 L709 1 (.int (i32 (k + (1))))) (x := k) rfl g711 (by decide) rfl rfl ?_
                    obtain ⟨L725, eL725⟩ : ∃ q : jL, q = jSto1 L709 1 (.int (i32 ((k + (1))))) := ⟨_, rfl⟩
                    rw [← eL725]
                    have g726 : jGet L725 0 = some (rv (me)) := eL725 ▸ jg_nr (by decide) g710
                    have g727 : jGet L725 2 = some (.int (i32 (0))) := eL725 ▸ jg_ne (by decide) g712 rfl
                    have g728 : jGet L725 3 = some (.int (i32 (r589))) := eL725 ▸ jg_ne (by decide) g713 rfl
                    have g729 : jGet L725 4 = some (rv (r672)) := eL725 ▸ jg_nr (by decide) g714
                    have g730 : jGet L725 1 = some (.int (i32 ((k + (1))))) := eL725 ▸ jg_eq
                    clear eL725
                    refine jx_go (tg := 69) rfl rfl ?_
                    have q731 := tz_b (F671 (sc) (15 : Int))
                    have q732 := lz_b (F671 (sc) (14 : Int))
                    exact ih _ (by omega) L725 m670 tg670 ln670 F671 ((k + (1))) rfl g726 g730 hX706 hC674 hM701 (by omega) (by omega) (by omega) (by omega) (by omega) (by omega) (by omega) (by omega) (by omega) (by omega) c689 c707 (CR_m c708 (by omega))
                  · have _q := h724
                    refine jx_ld (pc_q := 187) (l_q := L709) (st_q := [rv (me)]) rfl (jl_rvn g710) ?_
                    refine cx_gr (pc_q := 190) (c := 8) (q := 0) (v := pg) rfl rfl (by decide) (by decide) rfl rfl ho703.1 ho703.2 (((show F671 (me) (0 : Int) = F634 (me) (0 : Int) from hM675 _ _ ho659.1 (own_z ho659.1) (by rw [ho659.2]; rfl)).trans ((show F634 (me) (0 : Int) = F588 (me) (0 : Int) from hM637 _ _ ho618.1 (own_z ho618.1) (by rw [ho618.2]; rfl)).trans ((show F588 (me) (0 : Int) = F20 (me) (0 : Int) from hM592 _ _ ho45.1 (own_z ho45.1) (by rw [ho45.2]; rfl)).trans ((show F20 (me) (0 : Int) = Fx (me) (0 : Int) from hM23 _ _ ho2.1 (own_z ho2.1) (by rw [ho2.2]; rfl)).trans (show Fx (me) (0 : Int) = F (me) (0 : Int) from hMx _ _ o_me (own_z o_me) (by rw [t_me]; rfl)))))).trans e_pg) ?_
                    refine cx_gr (pc_q := 193) (c := 9) (q := 3) (v := F (pg) (3 : Int)) rfl rfl (by decide) (by decide) rfl rfl ho705.1 ho705.2 ((show F671 (pg) (3 : Int) = F634 (pg) (3 : Int) from hM675 _ _ ho661.1 (own_z ho661.1) (by rw [ho661.2]; rfl)).trans ((show F634 (pg) (3 : Int) = F588 (pg) (3 : Int) from hM637 _ _ ho620.1 (own_z ho620.1) (by rw [ho620.2]; rfl)).trans ((show F588 (pg) (3 : Int) = F20 (pg) (3 : Int) from hM592 _ _ ho47.1 (own_z ho47.1) (by rw [ho47.2]; rfl)).trans ((show F20 (pg) (3 : Int) = Fx (pg) (3 : Int) from hM23 _ _ ho4.1 (own_z ho4.1) (by rw [ho4.2]; rfl)).trans (show Fx (pg) (3 : Int) = F (pg) (3 : Int) from hMx _ _ o_pg (own_z o_pg) (by rw [t_pg]; rfl)))))) ?_
                    have y733 : own m670 (F (pg) (3 : Int)) ∧ tg670 (F (pg) (3 : Int)) = 24 ∧ ((6 : Int) ≠ 0 → ln670 (F (pg) (3 : Int)) = 6) := by have z := HC_n (c := 9) (q := 3) hC674 ho705.1 ho705.2 (own_z ho705.1) (by decide) rfl; rw [show F671 (pg) ((3 : Nat) : Int) = F (pg) (3 : Int) from ((show F671 (pg) (3 : Int) = F634 (pg) (3 : Int) from hM675 _ _ ho661.1 (own_z ho661.1) (by rw [ho661.2]; rfl)).trans ((show F634 (pg) (3 : Int) = F588 (pg) (3 : Int) from hM637 _ _ ho620.1 (own_z ho620.1) (by rw [ho620.2]; rfl)).trans ((show F588 (pg) (3 : Int) = F20 (pg) (3 : Int) from hM592 _ _ ho47.1 (own_z ho47.1) (by rw [ho47.2]; rfl)).trans ((show F20 (pg) (3 : Int) = Fx (pg) (3 : Int) from hM23 _ _ ho4.1 (own_z ho4.1) (by rw [ho4.2]; rfl)).trans (show Fx (pg) (3 : Int) = F (pg) (3 : Int) from hMx _ _ o_pg (own_z o_pg) (by rw [t_pg]; rfl))))))] at z; exact ⟨z.1, z.2.1, z.2.2.1⟩
                    have ly733 : ln670 (F (pg) (3 : Int)) = 6 := y733.2.2 (by decide)
                    refine jx_ld (pc_q := 194) (l_q := L709) (st_q := [.int (i32 (r589)), rv (F (pg) (3 : Int))]) rfl (jl_iloadn g713) ?_
                    refine jx_ld (pc_q := 196) (l_q := L709) (st_q := [rv (r672), .int (i32 (r589)), rv (F (pg) (3 : Int))]) rfl (jl_rv g714) ?_
                    have b734 := HC_l hC674 y733.1 y733.2.1 (by decide)
                    refine cx_aas (pc_q := 197) (c := 7) (z := r589) (y := r672) rfl rfl y733.1 (by rw [y733.2.1]; decide) (by omega) (by omega) (by omega) (fun hz => (Or.inr ⟨b676.1, b676.2⟩).resolve_left hz) (by decide) (by rw [y733.2.1]; rfl) ?_
                    obtain ⟨F735, eF735⟩ : ∃ q, q = uF F671 (F (pg) (3 : Int)) (r589) (r672) := ⟨_, rfl⟩
                    rw [← eF735]
                    have hC736 : HC 0 m670 tg670 ln670 F735 := by rw [eF735]; exact HC_pa hC674 y733.1 y733.2.1 (by decide) (by omega) (Or.inr ⟨b676.1, b676.2⟩)
                    have hM737 : Fq 0 [(7, 15), (9, 2), (9, 3), (10, 0), (10, 1), (10, 2), (10, 7), (10, 8), (10, 9), (11, 8), (11, 12), (11, 13), (11, 14), (11, 15), (11, 16), (11, 17), (11, 18), (24, -5), (26, -5)] m tg F F735 := by rw [eF735]; exact Fq_p hM701 y733.2.1 (fun w => (hX706.2 _ w).1) (inL_a rfl (by omega) rfl)
                    have c738 : NP m670 tg670 F735 := by rw [eF735]; exact NP_rt hC674 c689 y733.2.1 (show F671 (F (pg) (3 : Int)) (-1) = 0 by have z := HC_n (c := 9) (q := 3) hC674 ho705.1 ho705.2 (own_z ho705.1) (by decide) rfl; rw [show F671 (pg) ((3 : Nat) : Int) = F (pg) (3 : Int) from ((show F671 (pg) (3 : Int) = F634 (pg) (3 : Int) from hM675 _ _ ho661.1 (own_z ho661.1) (by rw [ho661.2]; rfl)).trans ((show F634 (pg) (3 : Int) = F588 (pg) (3 : Int) from hM637 _ _ ho620.1 (own_z ho620.1) (by rw [ho620.2]; rfl)).trans ((show F588 (pg) (3 : Int) = F20 (pg) (3 : Int) from hM592 _ _ ho47.1 (own_z ho47.1) (by rw [ho47.2]; rfl)).trans ((show F20 (pg) (3 : Int) = Fx (pg) (3 : Int) from hM23 _ _ ho4.1 (own_z ho4.1) (by rw [ho4.2]; rfl)).trans (show Fx (pg) (3 : Int) = F (pg) (3 : Int) from hMx _ _ o_pg (own_z o_pg) (by rw [t_pg]; rfl))))))] at z; exact z.2.2.2 (by decide)) (by omega) (SN_i b676.1 b676.2 (by omega) (by omega) (by omega))
                    have c739 : CR m670 tg670 F735 (F pg (3 : Int)) ((cr + k) + 1) := by rw [eF735]; exact CR_p c708
                    refine jx_inc (pc_q := 200) (l_q := jSto1 L709 1 (.int (i32 (k + (1))))) (x := k) rfl g711 (by decide) rfl rfl ?_
                    obtain ⟨L740, eL740⟩ : ∃ q : jL, q = jSto1 L709 1 (.int (i32 ((k + (1))))) := ⟨_, rfl⟩
                    rw [← eL740]
                    have g741 : jGet L740 0 = some (rv (me)) := eL740 ▸ jg_nr (by decide) g710
                    have g742 : jGet L740 2 = some (.int (i32 (0))) := eL740 ▸ jg_ne (by decide) g712 rfl
                    have g743 : jGet L740 3 = some (.int (i32 (r589))) := eL740 ▸ jg_ne (by decide) g713 rfl
                    have g744 : jGet L740 4 = some (rv (r672)) := eL740 ▸ jg_nr (by decide) g714
                    have g745 : jGet L740 1 = some (.int (i32 ((k + (1))))) := eL740 ▸ jg_eq
                    clear eL740
                    refine jx_go (tg := 69) rfl rfl ?_
                    have q746 : F735 (sc) (8 : Int) = F671 (sc) (8 : Int) := (show F735 (sc) (8 : Int) = F671 (sc) (8 : Int) from by rw [eF735]; exact uF_a (fun w => by have q1 := ho704.2; have q2 := y733.2.1; rw [w, q2] at q1; exact absurd q1 (by decide)))
                    have q747 : F735 (sc) (15 : Int) = F671 (sc) (15 : Int) := (show F735 (sc) (15 : Int) = F671 (sc) (15 : Int) from by rw [eF735]; exact uF_a (fun w => by have q1 := ho704.2; have q2 := y733.2.1; rw [w, q2] at q1; exact absurd q1 (by decide)))
                    have q748 : tz (F735 (sc) (15 : Int)) = tz (F671 (sc) (15 : Int)) := by rw [q747]
                    have q749 := tz_b (F671 (sc) (15 : Int))
                    have q750 : F735 (sc) (14 : Int) = F671 (sc) (14 : Int) := (show F735 (sc) (14 : Int) = F671 (sc) (14 : Int) from by rw [eF735]; exact uF_a (fun w => by have q1 := ho704.2; have q2 := y733.2.1; rw [w, q2] at q1; exact absurd q1 (by decide)))
                    have q751 : lz (F735 (sc) (14 : Int)) = lz (F671 (sc) (14 : Int)) := by rw [q750]
                    have q752 := lz_b (F671 (sc) (14 : Int))
                    have q753 : F735 (pg) (9 : Int) = F671 (pg) (9 : Int) := (show F735 (pg) (9 : Int) = F671 (pg) (9 : Int) from by rw [eF735]; exact uF_a (fun w => by have q1 := ho705.2; have q2 := y733.2.1; rw [w, q2] at q1; exact absurd q1 (by decide)))
                    exact ih _ (by omega) L740 m670 tg670 ln670 F735 ((k + (1))) rfl g741 g745 hX706 hC736 hM737 (by omega) (by omega) (by omega) (by omega) (by omega) (by omega) (by omega) (by omega) (by omega) (by omega) c738 c707 (CR_m c739 (by omega))
              · have _q := h582
                exact absurd h582 (by omega)
          · have _q := h403
            refine jx_ld (pc_q := 116) (l_q := L) (st_q := [rv (me)]) rfl (jl_rvn gL_0) ?_
            refine cx_gr (pc_q := 119) (c := 8) (q := 0) (v := pg) rfl rfl (by decide) (by decide) rfl rfl ho45.1 ho45.2 (((show F20 (me) (0 : Int) = Fx (me) (0 : Int) from hM23 _ _ ho2.1 (own_z ho2.1) (by rw [ho2.2]; rfl)).trans (show Fx (me) (0 : Int) = F (me) (0 : Int) from hMx _ _ o_me (own_z o_me) (by rw [t_me]; rfl))).trans e_pg) ?_
            refine cx_gr (pc_q := 122) (c := 9) (q := 3) (v := F (pg) (3 : Int)) rfl rfl (by decide) (by decide) rfl rfl ho47.1 ho47.2 ((show F20 (pg) (3 : Int) = Fx (pg) (3 : Int) from hM23 _ _ ho4.1 (own_z ho4.1) (by rw [ho4.2]; rfl)).trans (show Fx (pg) (3 : Int) = F (pg) (3 : Int) from hMx _ _ o_pg (own_z o_pg) (by rw [t_pg]; rfl))) ?_
            have y754 : own m19 (F (pg) (3 : Int)) ∧ tg19 (F (pg) (3 : Int)) = 24 ∧ ((6 : Int) ≠ 0 → ln19 (F (pg) (3 : Int)) = 6) := by have z := HC_n (c := 9) (q := 3) hC22 ho47.1 ho47.2 (own_z ho47.1) (by decide) rfl; rw [show F20 (pg) ((3 : Nat) : Int) = F (pg) (3 : Int) from ((show F20 (pg) (3 : Int) = Fx (pg) (3 : Int) from hM23 _ _ ho4.1 (own_z ho4.1) (by rw [ho4.2]; rfl)).trans (show Fx (pg) (3 : Int) = F (pg) (3 : Int) from hMx _ _ o_pg (own_z o_pg) (by rw [t_pg]; rfl)))] at z; exact ⟨z.1, z.2.1, z.2.2.1⟩
            have ly754 : ln19 (F (pg) (3 : Int)) = 6 := y754.2.2 (by decide)
            refine jx_ld (pc_q := 123) (l_q := L) (st_q := [rv (me), rv (F (pg) (3 : Int))]) rfl (jl_rvn gL_0) ?_
            refine cx_gr (pc_q := 126) (c := 8) (q := 1) (v := sc) rfl rfl (by decide) (by decide) rfl rfl ho45.1 ho45.2 (((show F20 (me) (1 : Int) = Fx (me) (1 : Int) from hM23 _ _ ho2.1 (own_z ho2.1) (by rw [ho2.2]; rfl)).trans (show Fx (me) (1 : Int) = F (me) (1 : Int) from hMx _ _ o_me (own_z o_me) (by rw [t_me]; rfl))).trans e_sc) ?_
            refine cx_gi (pc_q := 129) (c := 10) (q := 17) (v := F20 (sc) (17 : Int)) rfl rfl (by decide) (by decide) (Or.inl rfl) rfl ho46.1 ho46.2 rfl ?_
            have b755 := HC_l hC22 y754.1 y754.2.1 (by decide)
            refine cx_aal (pc_q := 130) (z := F20 (sc) (17 : Int)) rfl rfl y754.1 (by rw [y754.2.1]; decide) (by omega) (by omega) (by omega) ?_
            have y756 : F20 (F (pg) (3 : Int)) (F20 (sc) (17 : Int)) = 0 ∨ (own m19 (F20 (F (pg) (3 : Int)) (F20 (sc) (17 : Int))) ∧ tg19 (F20 (F (pg) (3 : Int)) (F20 (sc) (17 : Int))) = 8) := by have z := HC_er (j := F20 (sc) (17 : Int)) hC22 y754.1 y754.2.1 (by decide) (by omega); exact z
            refine cx_nul (pc_q := 133) (tg_q := 137) rfl rfl rfl (fun h757 => ?_) (fun h757 => ?_)
            · have _q := h757
              refine jx_ar (pc_q := 138) (st_q := [.int (i32 (0))]) rfl rfl rfl rfl ?_
              refine jx_ld (pc_q := 139) (l_q := jSto1 L 2 (.int (i32 (0)))) (st_q := []) rfl rfl ?_
              obtain ⟨L758, eL758⟩ : ∃ q : jL, q = jSto1 L 2 (.int (i32 (0))) := ⟨_, rfl⟩
              rw [← eL758]
              have g759 : jGet L758 0 = some (rv (me)) := eL758 ▸ jg_nr (by decide) gL_0
              have g760 : jGet L758 1 = some (.int (i32 (k))) := eL758 ▸ jg_ne (by decide) gL_1 rfl
              have g761 : jGet L758 2 = some (.int (i32 (0))) := eL758 ▸ jg_eq
              clear eL758
              refine jx_ld (pc_q := 140) (l_q := L758) (st_q := [rv (me)]) rfl (jl_rvn g759) ?_
              refine cx_gr (pc_q := 143) (c := 8) (q := 1) (v := sc) rfl rfl (by decide) (by decide) rfl rfl ho45.1 ho45.2 (((show F20 (me) (1 : Int) = Fx (me) (1 : Int) from hM23 _ _ ho2.1 (own_z ho2.1) (by rw [ho2.2]; rfl)).trans (show Fx (me) (1 : Int) = F (me) (1 : Int) from hMx _ _ o_me (own_z o_me) (by rw [t_me]; rfl))).trans e_sc) ?_
              refine cx_gi (pc_q := 146) (c := 10) (q := 15) (v := F20 (sc) (15 : Int)) rfl rfl (by decide) (by decide) (Or.inl rfl) rfl ho46.1 ho46.2 rfl ?_
              have b762 : (-2147483648 : Int) ≤ F20 (sc) (15 : Int) ∧ F20 (sc) (15 : Int) ≤ 2147483647 := by have z := HC_i (c := 10) (q := 15) hC22 ho46.1 ho46.2 (by decide) rfl; rw [show F20 (sc) ((15 : Nat) : Int) = F20 (sc) (15 : Int) from rfl] at z; exact z
              refine jx_ar (pc_q := 147) (st_q := [.int (i32 (3)), .int (i32 (F20 (sc) (15 : Int)))]) rfl rfl rfl rfl ?_
              refine jx_icmp_ne (pc_q := 150) (tg := 158) rfl rfl rfl (by omega) (by omega) (by decide) (by decide) (fun h763 => ?_) (fun h763 => ?_)
              · have _q := h763
                refine jx_ld (pc_q := 159) (l_q := L758) (st_q := [rv (me)]) rfl (jl_rvn g759) ?_
                refine jx_ar (pc_q := 160) (st_q := [.int (i32 (0)), rv (me)]) rfl rfl rfl rfl ?_
                refine jx_ar (pc_q := 161) (st_q := [.int (i32 (5)), .int (i32 (0)), rv (me)]) rfl rfl rfl rfl ?_
                have q764 := tz_b (F20 (sc) (15 : Int))
                have q765 : F20 (sc) (7 : Int) = F (sc) (7 : Int) := ((show F20 (sc) (7 : Int) = Fx (sc) (7 : Int) from hM23 _ _ ho3.1 (own_z ho3.1) (by rw [ho3.2]; rfl)).trans (show Fx (sc) (7 : Int) = F (sc) (7 : Int) from hMx _ _ o_sc (own_z o_sc) (by rw [t_sc]; rfl)))
                have q766 := lz_b (F20 (sc) (14 : Int))
                have q767 : F20 (pg) (9 : Int) = Fx (pg) (9 : Int) := (show F20 (pg) (9 : Int) = Fx (pg) (9 : Int) from hM23 _ _ ho4.1 (own_z ho4.1) (by rw [ho4.2]; rfl))
                refine cx_vi (c := 8) (a := me) (st := []) (as := [.int (i32 (0)), .int (i32 (5))]) rfl rfl rfl ho45.1 ho45.2 (by decide) rfl ⟨rfl, rfl, (Nat.le_of_ble_eq_true rfl)⟩ rfl (k_LParser_readNumber (dd := d) (R := R) (m := m19) (tg := tg19) (ln := ln19) (F := F20) (me := me) (le := 0) (mo := 5) (hd := by omega) (hC := hC22) (o_me := ho45.1) (t_me := ho45.2) (h_le := by omega) (h_mo := by omega) (sc := sc) (pg := pg) (o_sc := ho46.1) (t_sc := ho46.2) (e_sc := (((show F20 (me) (1 : Int) = Fx (me) (1 : Int) from hM23 _ _ ho2.1 (own_z ho2.1) (by rw [ho2.2]; rfl)).trans (show Fx (me) (1 : Int) = F (me) (1 : Int) from hMx _ _ o_me (own_z o_me) (by rw [t_me]; rfl))).trans e_sc)) (o_pg := ho47.1) (t_pg := ho47.2) (e_pg := (((show F20 (me) (0 : Int) = Fx (me) (0 : Int) from hM23 _ _ ho2.1 (own_z ho2.1) (by rw [ho2.2]; rfl)).trans (show Fx (me) (0 : Int) = F (me) (0 : Int) from hMx _ _ o_me (own_z o_me) (by rw [t_me]; rfl))).trans e_pg)) (p_0 := by omega) (p_1 := by omega) (p_2 := by omega) (c_NP := c31)) (fun o V_q hq => ?_)
                obtain ⟨m768, tg768, ln768, F769, r770, rfl, rfl, hx771, hC772, hM773, b774, p775, p776, p777, p778, p779, p780, p781, p782, p783, p784, c785, c786, -⟩ | ⟨m787, tg787, ln787, F787, x787, rfl, rfl, hx787, hC787, hM787, ho787, ht787, p788, p789, p790, p791, c792, c793, -⟩ := hq
                rotate_left
                ·
                  have c794 : NM m m787 tg787 := NM_t c49 hx787 c793
                  have lm795 := hx787.1
                  refine Or.inr (Or.inr (Or.inr ⟨_, _, rfl, cx_exc (c := 15) ho787 ht787 (by decide), rfl, ?_⟩))
                  have q796 : F20 (sc) (7 : Int) = F (sc) (7 : Int) := q765
                  exact Or.inr ⟨m787, tg787, ln787, F787, x787, rfl, rfl, Ex_t hX48 hx787, hC787, Fq_t (ln := ln) (ln1 := ln19) hM43 hX48 hM787 (by decide) (Or.inl rfl), (And.intro ho787 ht787).1, (And.intro ho787 ht787).2, by omega, by omega, by omega, by omega, c792, c794, trivial⟩
                have hM797 : Fq 0 [(7, 15), (9, 2), (9, 3), (10, 0), (10, 1), (10, 2), (10, 7), (10, 8), (10, 9), (11, 8), (11, 12), (11, 13), (11, 14), (11, 15), (11, 16), (11, 17), (11, 18), (24, -5), (26, -5)] m tg F F769 := Fq_t (ln := ln) (ln1 := ln19) hM43 hX48 hM773 (by decide) (Or.inl rfl)
                have lm798 := hx771.1
                have ho799 : own m768 (me) ∧ tg768 (me) = 9 := Ex_o hx771 ⟨ho45.1, ho45.2⟩
                have ho800 : own m768 (sc) ∧ tg768 (sc) = 11 := Ex_o hx771 ⟨ho46.1, ho46.2⟩
                have ho801 : own m768 (pg) ∧ tg768 (pg) = 10 := Ex_o hx771 ⟨ho47.1, ho47.2⟩
                have hX802 := Ex_t hX48 hx771
                have c803 : NM m m768 tg768 := NM_t c49 hx771 c786
                have c804 : CR m768 tg768 F769 (F pg (3 : Int)) (cr + k) := CR_x c50 hx771 hM773 rfl
                refine Or.inr (Or.inl ⟨_, rfl, ?_⟩)
                refine jx_ld (pc_q := 165) (l_q := jSto1 L758 3 (.int (i32 (r770)))) (st_q := []) rfl rfl ?_
                obtain ⟨L805, eL805⟩ : ∃ q : jL, q = jSto1 L758 3 (.int (i32 (r770))) := ⟨_, rfl⟩
                rw [← eL805]
                have g806 : jGet L805 0 = some (rv (me)) := eL805 ▸ jg_nr (by decide) g759
                have g807 : jGet L805 1 = some (.int (i32 (k))) := eL805 ▸ jg_ne (by decide) g760 rfl
                have g808 : jGet L805 2 = some (.int (i32 (0))) := eL805 ▸ jg_ne (by decide) g761 rfl
                have g809 : jGet L805 3 = some (.int (i32 (r770))) := eL805 ▸ jg_eq
                clear eL805
                refine jx_ld (pc_q := 166) (l_q := L805) (st_q := [rv (me)]) rfl (jl_rvn g806) ?_
                have q810 := tz_b (F769 (sc) (15 : Int))
                have q811 : F769 (sc) (7 : Int) = F (sc) (7 : Int) := ((show F769 (sc) (7 : Int) = F20 (sc) (7 : Int) from hM773 _ _ ho46.1 (own_z ho46.1) (by rw [ho46.2]; rfl)).trans q765)
                have q812 := lz_b (F769 (sc) (14 : Int))
                have q813 : F769 (pg) (9 : Int) = Fx (pg) (9 : Int) := ((show F769 (pg) (9 : Int) = F20 (pg) (9 : Int) from hM773 _ _ ho47.1 (own_z ho47.1) (by rw [ho47.2]; rfl)).trans q767)
                refine cx_vi (c := 8) (a := me) (st := []) (as := []) rfl rfl rfl ho799.1 ho799.2 (by decide) rfl ⟨rfl, rfl, (Nat.le_of_ble_eq_true rfl)⟩ rfl (k_LParser_endLine (dd := d) (R := R) (m := m768) (tg := tg768) (ln := ln768) (F := F769) (me := me) (hd := by omega) (hC := hC772) (o_me := ho799.1) (t_me := ho799.2) (sc := sc) (pg := pg) (o_sc := ho800.1) (t_sc := ho800.2) (e_sc := (((show F769 (me) (1 : Int) = F20 (me) (1 : Int) from hM773 _ _ ho45.1 (own_z ho45.1) (by rw [ho45.2]; rfl)).trans ((show F20 (me) (1 : Int) = Fx (me) (1 : Int) from hM23 _ _ ho2.1 (own_z ho2.1) (by rw [ho2.2]; rfl)).trans (show Fx (me) (1 : Int) = F (me) (1 : Int) from hMx _ _ o_me (own_z o_me) (by rw [t_me]; rfl)))).trans e_sc)) (o_pg := ho801.1) (t_pg := ho801.2) (e_pg := (((show F769 (me) (0 : Int) = F20 (me) (0 : Int) from hM773 _ _ ho45.1 (own_z ho45.1) (by rw [ho45.2]; rfl)).trans ((show F20 (me) (0 : Int) = Fx (me) (0 : Int) from hM23 _ _ ho2.1 (own_z ho2.1) (by rw [ho2.2]; rfl)).trans (show Fx (me) (0 : Int) = F (me) (0 : Int) from hMx _ _ o_me (own_z o_me) (by rw [t_me]; rfl)))).trans e_pg)) (p_0 := by omega) (p_1 := by omega) (p_2 := by omega) (c_NP := c785)) (fun o V_q hq => ?_)
                obtain ⟨m814, tg814, ln814, F815, rfl, rfl, hx816, hC817, hM818, p819, p820, p821, p822, p823, p824, p825, c826, c827, -⟩ | ⟨m828, tg828, ln828, F828, x828, rfl, rfl, hx828, hC828, hM828, ho828, ht828, p829, p830, p831, p832, c833, c834, -⟩ := hq
                rotate_left
                ·
                  have c835 : NM m m828 tg828 := NM_t c803 hx828 c834
                  have lm836 := hx828.1
                  refine Or.inr (Or.inr (Or.inr ⟨_, _, rfl, cx_exc (c := 15) ho828 ht828 (by decide), rfl, ?_⟩))
                  have q837 : F769 (sc) (7 : Int) = F (sc) (7 : Int) := q811
                  exact Or.inr ⟨m828, tg828, ln828, F828, x828, rfl, rfl, Ex_t hX802 hx828, hC828, Fq_t (ln := ln) (ln1 := ln768) hM797 hX802 hM828 (by decide) (Or.inl rfl), (And.intro ho828 ht828).1, (And.intro ho828 ht828).2, by omega, by omega, by omega, by omega, c833, c835, trivial⟩
                have hM838 : Fq 0 [(7, 15), (9, 2), (9, 3), (10, 0), (10, 1), (10, 2), (10, 7), (10, 8), (10, 9), (11, 8), (11, 12), (11, 13), (11, 14), (11, 15), (11, 16), (11, 17), (11, 18), (24, -5), (26, -5)] m tg F F815 := Fq_t (ln := ln) (ln1 := ln768) hM797 hX802 hM818 (by decide) (Or.inl rfl)
                have lm839 := hx816.1
                have ho840 : own m814 (me) ∧ tg814 (me) = 9 := Ex_o hx816 ⟨ho799.1, ho799.2⟩
                have ho841 : own m814 (sc) ∧ tg814 (sc) = 11 := Ex_o hx816 ⟨ho800.1, ho800.2⟩
                have ho842 : own m814 (pg) ∧ tg814 (pg) = 10 := Ex_o hx816 ⟨ho801.1, ho801.2⟩
                have hX843 := Ex_t hX802 hx816
                have c844 : NM m m814 tg814 := NM_t c803 hx816 c827
                have c845 : CR m814 tg814 F815 (F pg (3 : Int)) (cr + k) := CR_x c804 hx816 hM818 rfl
                refine Or.inl ⟨rfl, ?_⟩
                refine jx_ld (pc_q := 170) (l_q := L805) (st_q := [rv (me)]) rfl (jl_rvn g806) ?_
                refine jx_ar (pc_q := 171) (st_q := [.int (i32 (2)), rv (me)]) rfl rfl rfl rfl ?_
                have q846 := tz_b (F815 (sc) (15 : Int))
                have q847 : F815 (sc) (7 : Int) = F (sc) (7 : Int) := ((show F815 (sc) (7 : Int) = F769 (sc) (7 : Int) from hM818 _ _ ho800.1 (own_z ho800.1) (by rw [ho800.2]; rfl)).trans q811)
                have q848 := lz_b (F815 (sc) (14 : Int))
                have q849 : F815 (pg) (9 : Int) = Fx (pg) (9 : Int) := ((show F815 (pg) (9 : Int) = F769 (pg) (9 : Int) from hM818 _ _ ho801.1 (own_z ho801.1) (by rw [ho801.2]; rfl)).trans q813)
                have q850 : F815 (me) (2 : Int) = Fx (me) (2 : Int) := ((show F815 (me) (2 : Int) = F769 (me) (2 : Int) from hM818 _ _ ho799.1 (own_z ho799.1) (by rw [ho799.2]; rfl)).trans ((show F769 (me) (2 : Int) = F20 (me) (2 : Int) from hM773 _ _ ho45.1 (own_z ho45.1) (by rw [ho45.2]; rfl)).trans (show F20 (me) (2 : Int) = Fx (me) (2 : Int) from hM23 _ _ ho2.1 (own_z ho2.1) (by rw [ho2.2]; rfl))))
                refine cx_vi (c := 8) (a := me) (st := []) (as := [.int (i32 (2))]) rfl rfl rfl ho840.1 ho840.2 (by decide) rfl ⟨rfl, rfl, (Nat.le_of_ble_eq_true rfl)⟩ rfl (PPx_all X 18 (dd := d) (R := R) (m := m814) (tg := tg814) (ln := ln814) (F := F815) (me := me) (lv := 2) (hd := by omega) (hC := hC817) (o_me := ho840.1) (t_me := ho840.2) (h_lv := by omega) (sc := sc) (pg := pg) (o_sc := ho841.1) (t_sc := ho841.2) (e_sc := (((show F815 (me) (1 : Int) = F769 (me) (1 : Int) from hM818 _ _ ho799.1 (own_z ho799.1) (by rw [ho799.2]; rfl)).trans ((show F769 (me) (1 : Int) = F20 (me) (1 : Int) from hM773 _ _ ho45.1 (own_z ho45.1) (by rw [ho45.2]; rfl)).trans ((show F20 (me) (1 : Int) = Fx (me) (1 : Int) from hM23 _ _ ho2.1 (own_z ho2.1) (by rw [ho2.2]; rfl)).trans (show Fx (me) (1 : Int) = F (me) (1 : Int) from hMx _ _ o_me (own_z o_me) (by rw [t_me]; rfl))))).trans e_sc)) (o_pg := ho842.1) (t_pg := ho842.2) (e_pg := (((show F815 (me) (0 : Int) = F769 (me) (0 : Int) from hM818 _ _ ho799.1 (own_z ho799.1) (by rw [ho799.2]; rfl)).trans ((show F769 (me) (0 : Int) = F20 (me) (0 : Int) from hM773 _ _ ho45.1 (own_z ho45.1) (by rw [ho45.2]; rfl)).trans ((show F20 (me) (0 : Int) = Fx (me) (0 : Int) from hM23 _ _ ho2.1 (own_z ho2.1) (by rw [ho2.2]; rfl)).trans (show Fx (me) (0 : Int) = F (me) (0 : Int) from hMx _ _ o_me (own_z o_me) (by rw [t_me]; rfl))))).trans e_pg)) (p_0 := by omega) (p_1 := by omega) (p_2 := by omega) (p_3 := by omega) (c_NP := c826)) (fun o V_q hq => ?_)
                obtain ⟨m851, tg851, ln851, F852, r853, rfl, rfl, hx854, hC855, hM856, b857, p858, p859, p860, p861, p862, p863, p864, p865, p866, p867, p868, p869, c870, c871, -⟩ | ⟨m872, tg872, ln872, F872, x872, rfl, rfl, hx872, hC872, hM872, ho872, ht872, p873, p874, p875, p876, c877, c878, -⟩ := hq
                rotate_left
                ·
                  have c879 : NM m m872 tg872 := NM_t c844 hx872 c878
                  have lm880 := hx872.1
                  refine Or.inr (Or.inr (Or.inr ⟨_, _, rfl, cx_exc (c := 15) ho872 ht872 (by decide), rfl, ?_⟩))
                  have q881 : F815 (sc) (7 : Int) = F (sc) (7 : Int) := q847
                  exact Or.inr ⟨m872, tg872, ln872, F872, x872, rfl, rfl, Ex_t hX843 hx872, hC872, Fq_t (ln := ln) (ln1 := ln814) hM838 hX843 hM872 (by decide) (Or.inl rfl), (And.intro ho872 ht872).1, (And.intro ho872 ht872).2, by omega, by omega, by omega, by omega, c877, c879, trivial⟩
                have hM882 : Fq 0 [(7, 15), (9, 2), (9, 3), (10, 0), (10, 1), (10, 2), (10, 7), (10, 8), (10, 9), (11, 8), (11, 12), (11, 13), (11, 14), (11, 15), (11, 16), (11, 17), (11, 18), (24, -5), (26, -5)] m tg F F852 := Fq_t (ln := ln) (ln1 := ln814) hM838 hX843 hM856 (by decide) (Or.inl rfl)
                have lm883 := hx854.1
                have ho884 : own m851 (me) ∧ tg851 (me) = 9 := Ex_o hx854 ⟨ho840.1, ho840.2⟩
                have ho885 : own m851 (sc) ∧ tg851 (sc) = 11 := Ex_o hx854 ⟨ho841.1, ho841.2⟩
                have ho886 : own m851 (pg) ∧ tg851 (pg) = 10 := Ex_o hx854 ⟨ho842.1, ho842.2⟩
                have hX887 := Ex_t hX843 hx854
                have c888 : NM m m851 tg851 := NM_t c844 hx854 c871
                have c889 : CR m851 tg851 F852 (F pg (3 : Int)) (cr + k) := CR_x c845 hx854 hM856 rfl
                refine Or.inr (Or.inl ⟨_, rfl, ?_⟩)
                have rl : r853 < 64 + (m851 : Int) := b857.1.2.1
                refine jx_ld (pc_q := 176) (l_q := jSto1 L805 4 (rv (r853))) (st_q := []) rfl (js_rv (by decide)) ?_
                obtain ⟨L890, eL890⟩ : ∃ q : jL, q = jSto1 L805 4 (rv (r853)) := ⟨_, rfl⟩
                rw [← eL890]
                have g891 : jGet L890 0 = some (rv (me)) := eL890 ▸ jg_nr (by decide) g806
                have g892 : jGet L890 1 = some (.int (i32 (k))) := eL890 ▸ jg_ne (by decide) g807 rfl
                have g893 : jGet L890 2 = some (.int (i32 (0))) := eL890 ▸ jg_ne (by decide) g808 rfl
                have g894 : jGet L890 3 = some (.int (i32 (r770))) := eL890 ▸ jg_ne (by decide) g809 rfl
                have g895 : jGet L890 4 = some (rv (r853)) := eL890 ▸ jg_eq
                clear eL890
                refine jx_ld (pc_q := 177) (l_q := L890) (st_q := [.int (i32 (r770))]) rfl (jl_iloadn g894) ?_
                refine jx_if_lt (pc_q := 180) (tg := 197) rfl rfl rfl (by omega) (by omega) (fun h896 => ?_) (fun h896 => ?_)
                · have _q := h896
                  refine jx_inc (pc_q := 200) (l_q := jSto1 L890 1 (.int (i32 (k + (1))))) (x := k) rfl g892 (by decide) rfl rfl ?_
                  obtain ⟨L897, eL897⟩ : ∃ q : jL, q = jSto1 L890 1 (.int (i32 ((k + (1))))) := ⟨_, rfl⟩
                  rw [← eL897]
                  have g898 : jGet L897 0 = some (rv (me)) := eL897 ▸ jg_nr (by decide) g891
                  have g899 : jGet L897 2 = some (.int (i32 (0))) := eL897 ▸ jg_ne (by decide) g893 rfl
                  have g900 : jGet L897 3 = some (.int (i32 (r770))) := eL897 ▸ jg_ne (by decide) g894 rfl
                  have g901 : jGet L897 4 = some (rv (r853)) := eL897 ▸ jg_nr (by decide) g895
                  have g902 : jGet L897 1 = some (.int (i32 ((k + (1))))) := eL897 ▸ jg_eq
                  clear eL897
                  refine jx_go (tg := 69) rfl rfl ?_
                  have q903 := tz_b (F852 (sc) (15 : Int))
                  have q904 := lz_b (F852 (sc) (14 : Int))
                  exact ih _ (by omega) L897 m851 tg851 ln851 F852 ((k + (1))) rfl g898 g902 hX887 hC855 hM882 (by omega) (by omega) (by omega) (by omega) (by omega) (by omega) (by omega) (by omega) (by omega) (by omega) c870 c888 (CR_m c889 (by omega))
                · have _q := h896
                  refine jx_ld (pc_q := 181) (l_q := L890) (st_q := [.int (i32 (r770))]) rfl (jl_iloadn g894) ?_
                  refine jx_ar (pc_q := 183) (st_q := [.int (i32 (6)), .int (i32 (r770))]) rfl rfl rfl rfl ?_
                  refine jx_icmp_ge (pc_q := 186) (tg := 197) rfl rfl rfl (by omega) (by omega) (by decide) (by decide) (fun h905 => ?_) (fun h905 => ?_)
                  · have _q := h905
                    refine jx_inc (pc_q := 200) (l_q := jSto1 L890 1 (.int (i32 (k + (1))))) (x := k) rfl g892 (by decide) rfl rfl ?_
                    obtain ⟨L906, eL906⟩ : ∃ q : jL, q = jSto1 L890 1 (.int (i32 ((k + (1))))) := ⟨_, rfl⟩
                    rw [← eL906]
                    have g907 : jGet L906 0 = some (rv (me)) := eL906 ▸ jg_nr (by decide) g891
                    have g908 : jGet L906 2 = some (.int (i32 (0))) := eL906 ▸ jg_ne (by decide) g893 rfl
                    have g909 : jGet L906 3 = some (.int (i32 (r770))) := eL906 ▸ jg_ne (by decide) g894 rfl
                    have g910 : jGet L906 4 = some (rv (r853)) := eL906 ▸ jg_nr (by decide) g895
                    have g911 : jGet L906 1 = some (.int (i32 ((k + (1))))) := eL906 ▸ jg_eq
                    clear eL906
                    refine jx_go (tg := 69) rfl rfl ?_
                    have q912 := tz_b (F852 (sc) (15 : Int))
                    have q913 := lz_b (F852 (sc) (14 : Int))
                    exact ih _ (by omega) L906 m851 tg851 ln851 F852 ((k + (1))) rfl g907 g911 hX887 hC855 hM882 (by omega) (by omega) (by omega) (by omega) (by omega) (by omega) (by omega) (by omega) (by omega) (by omega) c870 c888 (CR_m c889 (by omega))
                  · have _q := h905
                    refine jx_ld (pc_q := 187) (l_q := L890) (st_q := [rv (me)]) rfl (jl_rvn g891) ?_
                    refine cx_gr (pc_q := 190) (c := 8) (q := 0) (v := pg) rfl rfl (by decide) (by decide) rfl rfl ho884.1 ho884.2 (((show F852 (me) (0 : Int) = F815 (me) (0 : Int) from hM856 _ _ ho840.1 (own_z ho840.1) (by rw [ho840.2]; rfl)).trans ((show F815 (me) (0 : Int) = F769 (me) (0 : Int) from hM818 _ _ ho799.1 (own_z ho799.1) (by rw [ho799.2]; rfl)).trans ((show F769 (me) (0 : Int) = F20 (me) (0 : Int) from hM773 _ _ ho45.1 (own_z ho45.1) (by rw [ho45.2]; rfl)).trans ((show F20 (me) (0 : Int) = Fx (me) (0 : Int) from hM23 _ _ ho2.1 (own_z ho2.1) (by rw [ho2.2]; rfl)).trans (show Fx (me) (0 : Int) = F (me) (0 : Int) from hMx _ _ o_me (own_z o_me) (by rw [t_me]; rfl)))))).trans e_pg) ?_
                    refine cx_gr (pc_q := 193) (c := 9) (q := 3) (v := F (pg) (3 : Int)) rfl rfl (by decide) (by decide) rfl rfl ho886.1 ho886.2 ((show F852 (pg) (3 : Int) = F815 (pg) (3 : Int) from hM856 _ _ ho842.1 (own_z ho842.1) (by rw [ho842.2]; rfl)).trans ((show F815 (pg) (3 : Int) = F769 (pg) (3 : Int) from hM818 _ _ ho801.1 (own_z ho801.1) (by rw [ho801.2]; rfl)).trans ((show F769 (pg) (3 : Int) = F20 (pg) (3 : Int) from hM773 _ _ ho47.1 (own_z ho47.1) (by rw [ho47.2]; rfl)).trans ((show F20 (pg) (3 : Int) = Fx (pg) (3 : Int) from hM23 _ _ ho4.1 (own_z ho4.1) (by rw [ho4.2]; rfl)).trans (show Fx (pg) (3 : Int) = F (pg) (3 : Int) from hMx _ _ o_pg (own_z o_pg) (by rw [t_pg]; rfl)))))) ?_
                    have y914 : own m851 (F (pg) (3 : Int)) ∧ tg851 (F (pg) (3 : Int)) = 24 ∧ ((6 : Int) ≠ 0 → ln851 (F (pg) (3 : Int)) = 6) := by have z := HC_n (c := 9) (q := 3) hC855 ho886.1 ho886.2 (own_z ho886.1) (by decide) rfl; rw [show F852 (pg) ((3 : Nat) : Int) = F (pg) (3 : Int) from ((show F852 (pg) (3 : Int) = F815 (pg) (3 : Int) from hM856 _ _ ho842.1 (own_z ho842.1) (by rw [ho842.2]; rfl)).trans ((show F815 (pg) (3 : Int) = F769 (pg) (3 : Int) from hM818 _ _ ho801.1 (own_z ho801.1) (by rw [ho801.2]; rfl)).trans ((show F769 (pg) (3 : Int) = F20 (pg) (3 : Int) from hM773 _ _ ho47.1 (own_z ho47.1) (by rw [ho47.2]; rfl)).trans ((show F20 (pg) (3 : Int) = Fx (pg) (3 : Int) from hM23 _ _ ho4.1 (own_z ho4.1) (by rw [ho4.2]; rfl)).trans (show Fx (pg) (3 : Int) = F (pg) (3 : Int) from hMx _ _ o_pg (own_z o_pg) (by rw [t_pg]; rfl))))))] at z; exact ⟨z.1, z.2.1, z.2.2.1⟩
                    have ly914 : ln851 (F (pg) (3 : Int)) = 6 := y914.2.2 (by decide)
                    refine jx_ld (pc_q := 194) (l_q := L890) (st_q := [.int (i32 (r770)), rv (F (pg) (3 : Int))]) rfl (jl_iloadn g894) ?_
                    refine jx_ld (pc_q := 196) (l_q := L890) (st_q := [rv (r853), .int (i32 (r770)), rv (F (pg) (3 : Int))]) rfl (jl_rv g895) ?_
                    have b915 := HC_l hC855 y914.1 y914.2.1 (by decide)
                    refine cx_aas (pc_q := 197) (c := 7) (z := r770) (y := r853) rfl rfl y914.1 (by rw [y914.2.1]; decide) (by omega) (by omega) (by omega) (fun hz => (Or.inr ⟨b857.1, b857.2⟩).resolve_left hz) (by decide) (by rw [y914.2.1]; rfl) ?_
                    obtain ⟨F916, eF916⟩ : ∃ q, q = uF F852 (F (pg) (3 : Int)) (r770) (r853) := ⟨_, rfl⟩
                    rw [← eF916]
                    have hC917 : HC 0 m851 tg851 ln851 F916 := by rw [eF916]; exact HC_pa hC855 y914.1 y914.2.1 (by decide) (by omega) (Or.inr ⟨b857.1, b857.2⟩)
                    have hM918 : Fq 0 [(7, 15), (9, 2), (9, 3), (10, 0), (10, 1), (10, 2), (10, 7), (10, 8), (10, 9), (11, 8), (11, 12), (11, 13), (11, 14), (11, 15), (11, 16), (11, 17), (11, 18), (24, -5), (26, -5)] m tg F F916 := by rw [eF916]; exact Fq_p hM882 y914.2.1 (fun w => (hX887.2 _ w).1) (inL_a rfl (by omega) rfl)
                    have c919 : NP m851 tg851 F916 := by rw [eF916]; exact NP_rt hC855 c870 y914.2.1 (show F852 (F (pg) (3 : Int)) (-1) = 0 by have z := HC_n (c := 9) (q := 3) hC855 ho886.1 ho886.2 (own_z ho886.1) (by decide) rfl; rw [show F852 (pg) ((3 : Nat) : Int) = F (pg) (3 : Int) from ((show F852 (pg) (3 : Int) = F815 (pg) (3 : Int) from hM856 _ _ ho842.1 (own_z ho842.1) (by rw [ho842.2]; rfl)).trans ((show F815 (pg) (3 : Int) = F769 (pg) (3 : Int) from hM818 _ _ ho801.1 (own_z ho801.1) (by rw [ho801.2]; rfl)).trans ((show F769 (pg) (3 : Int) = F20 (pg) (3 : Int) from hM773 _ _ ho47.1 (own_z ho47.1) (by rw [ho47.2]; rfl)).trans ((show F20 (pg) (3 : Int) = Fx (pg) (3 : Int) from hM23 _ _ ho4.1 (own_z ho4.1) (by rw [ho4.2]; rfl)).trans (show Fx (pg) (3 : Int) = F (pg) (3 : Int) from hMx _ _ o_pg (own_z o_pg) (by rw [t_pg]; rfl))))))] at z; exact z.2.2.2 (by decide)) (by omega) (SN_i b857.1 b857.2 (by omega) (by omega) (by omega))
                    have c920 : CR m851 tg851 F916 (F pg (3 : Int)) ((cr + k) + 1) := by rw [eF916]; exact CR_p c889
                    refine jx_inc (pc_q := 200) (l_q := jSto1 L890 1 (.int (i32 (k + (1))))) (x := k) rfl g892 (by decide) rfl rfl ?_
                    obtain ⟨L921, eL921⟩ : ∃ q : jL, q = jSto1 L890 1 (.int (i32 ((k + (1))))) := ⟨_, rfl⟩
                    rw [← eL921]
                    have g922 : jGet L921 0 = some (rv (me)) := eL921 ▸ jg_nr (by decide) g891
                    have g923 : jGet L921 2 = some (.int (i32 (0))) := eL921 ▸ jg_ne (by decide) g893 rfl
                    have g924 : jGet L921 3 = some (.int (i32 (r770))) := eL921 ▸ jg_ne (by decide) g894 rfl
                    have g925 : jGet L921 4 = some (rv (r853)) := eL921 ▸ jg_nr (by decide) g895
                    have g926 : jGet L921 1 = some (.int (i32 ((k + (1))))) := eL921 ▸ jg_eq
                    clear eL921
                    refine jx_go (tg := 69) rfl rfl ?_
                    have q927 : F916 (sc) (8 : Int) = F852 (sc) (8 : Int) := (show F916 (sc) (8 : Int) = F852 (sc) (8 : Int) from by rw [eF916]; exact uF_a (fun w => by have q1 := ho885.2; have q2 := y914.2.1; rw [w, q2] at q1; exact absurd q1 (by decide)))
                    have q928 : F916 (sc) (15 : Int) = F852 (sc) (15 : Int) := (show F916 (sc) (15 : Int) = F852 (sc) (15 : Int) from by rw [eF916]; exact uF_a (fun w => by have q1 := ho885.2; have q2 := y914.2.1; rw [w, q2] at q1; exact absurd q1 (by decide)))
                    have q929 : tz (F916 (sc) (15 : Int)) = tz (F852 (sc) (15 : Int)) := by rw [q928]
                    have q930 := tz_b (F852 (sc) (15 : Int))
                    have q931 : F916 (sc) (14 : Int) = F852 (sc) (14 : Int) := (show F916 (sc) (14 : Int) = F852 (sc) (14 : Int) from by rw [eF916]; exact uF_a (fun w => by have q1 := ho885.2; have q2 := y914.2.1; rw [w, q2] at q1; exact absurd q1 (by decide)))
                    have q932 : lz (F916 (sc) (14 : Int)) = lz (F852 (sc) (14 : Int)) := by rw [q931]
                    have q933 := lz_b (F852 (sc) (14 : Int))
                    have q934 : F916 (pg) (9 : Int) = F852 (pg) (9 : Int) := (show F916 (pg) (9 : Int) = F852 (pg) (9 : Int) from by rw [eF916]; exact uF_a (fun w => by have q1 := ho886.2; have q2 := y914.2.1; rw [w, q2] at q1; exact absurd q1 (by decide)))
                    exact ih _ (by omega) L921 m851 tg851 ln851 F916 ((k + (1))) rfl g922 g926 hX887 hC917 hM918 (by omega) (by omega) (by omega) (by omega) (by omega) (by omega) (by omega) (by omega) (by omega) (by omega) c919 c888 (CR_m c920 (by omega))
              · have _q := h763
                have t935 : tz (F20 (sc) (15 : Int)) = 1 := tz_p (by omega)
                refine jx_ld (pc_q := 151) (l_q := L758) (st_q := [.int (i32 (0))]) rfl (jl_iloadn g761) ?_
                refine jx_if_eq (pc_q := 154) (tg := 158) rfl rfl rfl (by decide) (by decide) (fun h936 => ?_) (fun h936 => ?_)
                · have _q := h936
                  refine jx_ld (pc_q := 159) (l_q := L758) (st_q := [rv (me)]) rfl (jl_rvn g759) ?_
                  refine jx_ar (pc_q := 160) (st_q := [.int (i32 (0)), rv (me)]) rfl rfl rfl rfl ?_
                  refine jx_ar (pc_q := 161) (st_q := [.int (i32 (5)), .int (i32 (0)), rv (me)]) rfl rfl rfl rfl ?_
                  have q937 := tz_b (F20 (sc) (15 : Int))
                  have q938 : F20 (sc) (7 : Int) = F (sc) (7 : Int) := ((show F20 (sc) (7 : Int) = Fx (sc) (7 : Int) from hM23 _ _ ho3.1 (own_z ho3.1) (by rw [ho3.2]; rfl)).trans (show Fx (sc) (7 : Int) = F (sc) (7 : Int) from hMx _ _ o_sc (own_z o_sc) (by rw [t_sc]; rfl)))
                  have q939 := lz_b (F20 (sc) (14 : Int))
                  have q940 : F20 (pg) (9 : Int) = Fx (pg) (9 : Int) := (show F20 (pg) (9 : Int) = Fx (pg) (9 : Int) from hM23 _ _ ho4.1 (own_z ho4.1) (by rw [ho4.2]; rfl))
                  refine cx_vi (c := 8) (a := me) (st := []) (as := [.int (i32 (0)), .int (i32 (5))]) rfl rfl rfl ho45.1 ho45.2 (by decide) rfl ⟨rfl, rfl, (Nat.le_of_ble_eq_true rfl)⟩ rfl (k_LParser_readNumber (dd := d) (R := R) (m := m19) (tg := tg19) (ln := ln19) (F := F20) (me := me) (le := 0) (mo := 5) (hd := by omega) (hC := hC22) (o_me := ho45.1) (t_me := ho45.2) (h_le := by omega) (h_mo := by omega) (sc := sc) (pg := pg) (o_sc := ho46.1) (t_sc := ho46.2) (e_sc := (((show F20 (me) (1 : Int) = Fx (me) (1 : Int) from hM23 _ _ ho2.1 (own_z ho2.1) (by rw [ho2.2]; rfl)).trans (show Fx (me) (1 : Int) = F (me) (1 : Int) from hMx _ _ o_me (own_z o_me) (by rw [t_me]; rfl))).trans e_sc)) (o_pg := ho47.1) (t_pg := ho47.2) (e_pg := (((show F20 (me) (0 : Int) = Fx (me) (0 : Int) from hM23 _ _ ho2.1 (own_z ho2.1) (by rw [ho2.2]; rfl)).trans (show Fx (me) (0 : Int) = F (me) (0 : Int) from hMx _ _ o_me (own_z o_me) (by rw [t_me]; rfl))).trans e_pg)) (p_0 := by omega) (p_1 := by omega) (p_2 := by omega) (c_NP := c31)) (fun o V_q hq => ?_)
                  obtain ⟨m941, tg941, ln941, F942, r943, rfl, rfl, hx944, hC945, hM946, b947, p948, p949, p950, p951, p952, p953, p954, p955, p956, p957, c958, c959, -⟩ | ⟨m960, tg960, ln960, F960, x960, rfl, rfl, hx960, hC960, hM960, ho960, ht960, p961, p962, p963, p964, c965, c966, -⟩ := hq
                  rotate_left
                  ·
                    have c967 : NM m m960 tg960 := NM_t c49 hx960 c966
                    have lm968 := hx960.1
                    refine Or.inr (Or.inr (Or.inr ⟨_, _, rfl, cx_exc (c := 15) ho960 ht960 (by decide), rfl, ?_⟩))
                    have q969 : F20 (sc) (7 : Int) = F (sc) (7 : Int) := q938
                    exact Or.inr ⟨m960, tg960, ln960, F960, x960, rfl, rfl, Ex_t hX48 hx960, hC960, Fq_t (ln := ln) (ln1 := ln19) hM43 hX48 hM960 (by decide) (Or.inl rfl), (And.intro ho960 ht960).1, (And.intro ho960 ht960).2, by omega, by omega, by omega, by omega, c965, c967, trivial⟩
                  have hM970 : Fq 0 [(7, 15), (9, 2), (9, 3), (10, 0), (10, 1), (10, 2), (10, 7), (10, 8), (10, 9), (11, 8), (11, 12), (11, 13), (11, 14), (11, 15), (11, 16), (11, 17), (11, 18), (24, -5), (26, -5)] m tg F F942 := Fq_t (ln := ln) (ln1 := ln19) hM43 hX48 hM946 (by decide) (Or.inl rfl)
                  have lm971 := hx944.1
                  have ho972 : own m941 (me) ∧ tg941 (me) = 9 := Ex_o hx944 ⟨ho45.1, ho45.2⟩
                  have ho973 : own m941 (sc) ∧ tg941 (sc) = 11 := Ex_o hx944 ⟨ho46.1, ho46.2⟩
                  have ho974 : own m941 (pg) ∧ tg941 (pg) = 10 := Ex_o hx944 ⟨ho47.1, ho47.2⟩
                  have hX975 := Ex_t hX48 hx944
                  have c976 : NM m m941 tg941 := NM_t c49 hx944 c959
                  have c977 : CR m941 tg941 F942 (F pg (3 : Int)) (cr + k) := CR_x c50 hx944 hM946 rfl
                  refine Or.inr (Or.inl ⟨_, rfl, ?_⟩)
                  refine jx_ld (pc_q := 165) (l_q := jSto1 L758 3 (.int (i32 (r943)))) (st_q := []) rfl rfl ?_
                  obtain ⟨L978, eL978⟩ : ∃ q : jL, q = jSto1 L758 3 (.int (i32 (r943))) := ⟨_, rfl⟩
                  rw [← eL978]
                  have g979 : jGet L978 0 = some (rv (me)) := eL978 ▸ jg_nr (by decide) g759
                  have g980 : jGet L978 1 = some (.int (i32 (k))) := eL978 ▸ jg_ne (by decide) g760 rfl
                  have g981 : jGet L978 2 = some (.int (i32 (0))) := eL978 ▸ jg_ne (by decide) g761 rfl
                  have g982 : jGet L978 3 = some (.int (i32 (r943))) := eL978 ▸ jg_eq
                  clear eL978
                  refine jx_ld (pc_q := 166) (l_q := L978) (st_q := [rv (me)]) rfl (jl_rvn g979) ?_
                  have q983 := tz_b (F942 (sc) (15 : Int))
                  have q984 : F942 (sc) (7 : Int) = F (sc) (7 : Int) := ((show F942 (sc) (7 : Int) = F20 (sc) (7 : Int) from hM946 _ _ ho46.1 (own_z ho46.1) (by rw [ho46.2]; rfl)).trans q938)
                  have q985 := lz_b (F942 (sc) (14 : Int))
                  have q986 : F942 (pg) (9 : Int) = Fx (pg) (9 : Int) := ((show F942 (pg) (9 : Int) = F20 (pg) (9 : Int) from hM946 _ _ ho47.1 (own_z ho47.1) (by rw [ho47.2]; rfl)).trans q940)
                  refine cx_vi (c := 8) (a := me) (st := []) (as := []) rfl rfl rfl ho972.1 ho972.2 (by decide) rfl ⟨rfl, rfl, (Nat.le_of_ble_eq_true rfl)⟩ rfl (k_LParser_endLine (dd := d) (R := R) (m := m941) (tg := tg941) (ln := ln941) (F := F942) (me := me) (hd := by omega) (hC := hC945) (o_me := ho972.1) (t_me := ho972.2) (sc := sc) (pg := pg) (o_sc := ho973.1) (t_sc := ho973.2) (e_sc := (((show F942 (me) (1 : Int) = F20 (me) (1 : Int) from hM946 _ _ ho45.1 (own_z ho45.1) (by rw [ho45.2]; rfl)).trans ((show F20 (me) (1 : Int) = Fx (me) (1 : Int) from hM23 _ _ ho2.1 (own_z ho2.1) (by rw [ho2.2]; rfl)).trans (show Fx (me) (1 : Int) = F (me) (1 : Int) from hMx _ _ o_me (own_z o_me) (by rw [t_me]; rfl)))).trans e_sc)) (o_pg := ho974.1) (t_pg := ho974.2) (e_pg := (((show F942 (me) (0 : Int) = F20 (me) (0 : Int) from hM946 _ _ ho45.1 (own_z ho45.1) (by rw [ho45.2]; rfl)).trans ((show F20 (me) (0 : Int) = Fx (me) (0 : Int) from hM23 _ _ ho2.1 (own_z ho2.1) (by rw [ho2.2]; rfl)).trans (show Fx (me) (0 : Int) = F (me) (0 : Int) from hMx _ _ o_me (own_z o_me) (by rw [t_me]; rfl)))).trans e_pg)) (p_0 := by omega) (p_1 := by omega) (p_2 := by omega) (c_NP := c958)) (fun o V_q hq => ?_)
                  obtain ⟨m987, tg987, ln987, F988, rfl, rfl, hx989, hC990, hM991, p992, p993, p994, p995, p996, p997, p998, c999, c1000, -⟩ | ⟨m1001, tg1001, ln1001, F1001, x1001, rfl, rfl, hx1001, hC1001, hM1001, ho1001, ht1001, p1002, p1003, p1004, p1005, c1006, c1007, -⟩ := hq
                  rotate_left
                  ·
                    have c1008 : NM m m1001 tg1001 := NM_t c976 hx1001 c1007
                    have lm1009 := hx1001.1
                    refine Or.inr (Or.inr (Or.inr ⟨_, _, rfl, cx_exc (c := 15) ho1001 ht1001 (by decide), rfl, ?_⟩))
                    have q1010 : F942 (sc) (7 : Int) = F (sc) (7 : Int) := q984
                    exact Or.inr ⟨m1001, tg1001, ln1001, F1001, x1001, rfl, rfl, Ex_t hX975 hx1001, hC1001, Fq_t (ln := ln) (ln1 := ln941) hM970 hX975 hM1001 (by decide) (Or.inl rfl), (And.intro ho1001 ht1001).1, (And.intro ho1001 ht1001).2, by omega, by omega, by omega, by omega, c1006, c1008, trivial⟩
                  have hM1011 : Fq 0 [(7, 15), (9, 2), (9, 3), (10, 0), (10, 1), (10, 2), (10, 7), (10, 8), (10, 9), (11, 8), (11, 12), (11, 13), (11, 14), (11, 15), (11, 16), (11, 17), (11, 18), (24, -5), (26, -5)] m tg F F988 := Fq_t (ln := ln) (ln1 := ln941) hM970 hX975 hM991 (by decide) (Or.inl rfl)
                  have lm1012 := hx989.1
                  have ho1013 : own m987 (me) ∧ tg987 (me) = 9 := Ex_o hx989 ⟨ho972.1, ho972.2⟩
                  have ho1014 : own m987 (sc) ∧ tg987 (sc) = 11 := Ex_o hx989 ⟨ho973.1, ho973.2⟩
                  have ho1015 : own m987 (pg) ∧ tg987 (pg) = 10 := Ex_o hx989 ⟨ho974.1, ho974.2⟩
                  have hX1016 := Ex_t hX975 hx989
                  have c1017 : NM m m987 tg987 := NM_t c976 hx989 c1000
                  have c1018 : CR m987 tg987 F988 (F pg (3 : Int)) (cr + k) := CR_x c977 hx989 hM991 rfl
                  refine Or.inl ⟨rfl, ?_⟩
                  refine jx_ld (pc_q := 170) (l_q := L978) (st_q := [rv (me)]) rfl (jl_rvn g979) ?_
                  refine jx_ar (pc_q := 171) (st_q := [.int (i32 (2)), rv (me)]) rfl rfl rfl rfl ?_
                  have q1019 := tz_b (F988 (sc) (15 : Int))
                  have q1020 : F988 (sc) (7 : Int) = F (sc) (7 : Int) := ((show F988 (sc) (7 : Int) = F942 (sc) (7 : Int) from hM991 _ _ ho973.1 (own_z ho973.1) (by rw [ho973.2]; rfl)).trans q984)
                  have q1021 := lz_b (F988 (sc) (14 : Int))
                  have q1022 : F988 (pg) (9 : Int) = Fx (pg) (9 : Int) := ((show F988 (pg) (9 : Int) = F942 (pg) (9 : Int) from hM991 _ _ ho974.1 (own_z ho974.1) (by rw [ho974.2]; rfl)).trans q986)
                  have q1023 : F988 (me) (2 : Int) = Fx (me) (2 : Int) := ((show F988 (me) (2 : Int) = F942 (me) (2 : Int) from hM991 _ _ ho972.1 (own_z ho972.1) (by rw [ho972.2]; rfl)).trans ((show F942 (me) (2 : Int) = F20 (me) (2 : Int) from hM946 _ _ ho45.1 (own_z ho45.1) (by rw [ho45.2]; rfl)).trans (show F20 (me) (2 : Int) = Fx (me) (2 : Int) from hM23 _ _ ho2.1 (own_z ho2.1) (by rw [ho2.2]; rfl))))
                  refine cx_vi (c := 8) (a := me) (st := []) (as := [.int (i32 (2))]) rfl rfl rfl ho1013.1 ho1013.2 (by decide) rfl ⟨rfl, rfl, (Nat.le_of_ble_eq_true rfl)⟩ rfl (PPx_all X 18 (dd := d) (R := R) (m := m987) (tg := tg987) (ln := ln987) (F := F988) (me := me) (lv := 2) (hd := by omega) (hC := hC990) (o_me := ho1013.1) (t_me := ho1013.2) (h_lv := by omega) (sc := sc) (pg := pg) (o_sc := ho1014.1) (t_sc := ho1014.2) (e_sc := (((show F988 (me) (1 : Int) = F942 (me) (1 : Int) from hM991 _ _ ho972.1 (own_z ho972.1) (by rw [ho972.2]; rfl)).trans ((show F942 (me) (1 : Int) = F20 (me) (1 : Int) from hM946 _ _ ho45.1 (own_z ho45.1) (by rw [ho45.2]; rfl)).trans ((show F20 (me) (1 : Int) = Fx (me) (1 : Int) from hM23 _ _ ho2.1 (own_z ho2.1) (by rw [ho2.2]; rfl)).trans (show Fx (me) (1 : Int) = F (me) (1 : Int) from hMx _ _ o_me (own_z o_me) (by rw [t_me]; rfl))))).trans e_sc)) (o_pg := ho1015.1) (t_pg := ho1015.2) (e_pg := (((show F988 (me) (0 : Int) = F942 (me) (0 : Int) from hM991 _ _ ho972.1 (own_z ho972.1) (by rw [ho972.2]; rfl)).trans ((show F942 (me) (0 : Int) = F20 (me) (0 : Int) from hM946 _ _ ho45.1 (own_z ho45.1) (by rw [ho45.2]; rfl)).trans ((show F20 (me) (0 : Int) = Fx (me) (0 : Int) from hM23 _ _ ho2.1 (own_z ho2.1) (by rw [ho2.2]; rfl)).trans (show Fx (me) (0 : Int) = F (me) (0 : Int) from hMx _ _ o_me (own_z o_me) (by rw [t_me]; rfl))))).trans e_pg)) (p_0 := by omega) (p_1 := by omega) (p_2 := by omega) (p_3 := by omega) (c_NP := c999)) (fun o V_q hq => ?_)
                  obtain ⟨m1024, tg1024, ln1024, F1025, r1026, rfl, rfl, hx1027, hC1028, hM1029, b1030, p1031, p1032, p1033, p1034, p1035, p1036, p1037, p1038, p1039, p1040, p1041, p1042, c1043, c1044, -⟩ | ⟨m1045, tg1045, ln1045, F1045, x1045, rfl, rfl, hx1045, hC1045, hM1045, ho1045, ht1045, p1046, p1047, p1048, p1049, c1050, c1051, -⟩ := hq
                  rotate_left
                  ·
                    have c1052 : NM m m1045 tg1045 := NM_t c1017 hx1045 c1051
                    have lm1053 := hx1045.1
                    refine Or.inr (Or.inr (Or.inr ⟨_, _, rfl, cx_exc (c := 15) ho1045 ht1045 (by decide), rfl, ?_⟩))
                    have q1054 : F988 (sc) (7 : Int) = F (sc) (7 : Int) := q1020
                    exact Or.inr ⟨m1045, tg1045, ln1045, F1045, x1045, rfl, rfl, Ex_t hX1016 hx1045, hC1045, Fq_t (ln := ln) (ln1 := ln987) hM1011 hX1016 hM1045 (by decide) (Or.inl rfl), (And.intro ho1045 ht1045).1, (And.intro ho1045 ht1045).2, by omega, by omega, by omega, by omega, c1050, c1052, trivial⟩
                  have hM1055 : Fq 0 [(7, 15), (9, 2), (9, 3), (10, 0), (10, 1), (10, 2), (10, 7), (10, 8), (10, 9), (11, 8), (11, 12), (11, 13), (11, 14), (11, 15), (11, 16), (11, 17), (11, 18), (24, -5), (26, -5)] m tg F F1025 := Fq_t (ln := ln) (ln1 := ln987) hM1011 hX1016 hM1029 (by decide) (Or.inl rfl)
                  have lm1056 := hx1027.1
                  have ho1057 : own m1024 (me) ∧ tg1024 (me) = 9 := Ex_o hx1027 ⟨ho1013.1, ho1013.2⟩
                  have ho1058 : own m1024 (sc) ∧ tg1024 (sc) = 11 := Ex_o hx1027 ⟨ho1014.1, ho1014.2⟩
                  have ho1059 : own m1024 (pg) ∧ tg1024 (pg) = 10 := Ex_o hx1027 ⟨ho1015.1, ho1015.2⟩
                  have hX1060 := Ex_t hX1016 hx1027
                  have c1061 : NM m m1024 tg1024 := NM_t c1017 hx1027 c1044
                  have c1062 : CR m1024 tg1024 F1025 (F pg (3 : Int)) (cr + k) := CR_x c1018 hx1027 hM1029 rfl
                  refine Or.inr (Or.inl ⟨_, rfl, ?_⟩)
                  have rl : r1026 < 64 + (m1024 : Int) := b1030.1.2.1
                  refine jx_ld (pc_q := 176) (l_q := jSto1 L978 4 (rv (r1026))) (st_q := []) rfl (js_rv (by decide)) ?_
                  obtain ⟨L1063, eL1063⟩ : ∃ q : jL, q = jSto1 L978 4 (rv (r1026)) := ⟨_, rfl⟩
                  rw [← eL1063]
                  have g1064 : jGet L1063 0 = some (rv (me)) := eL1063 ▸ jg_nr (by decide) g979
                  have g1065 : jGet L1063 1 = some (.int (i32 (k))) := eL1063 ▸ jg_ne (by decide) g980 rfl
                  have g1066 : jGet L1063 2 = some (.int (i32 (0))) := eL1063 ▸ jg_ne (by decide) g981 rfl
                  have g1067 : jGet L1063 3 = some (.int (i32 (r943))) := eL1063 ▸ jg_ne (by decide) g982 rfl
                  have g1068 : jGet L1063 4 = some (rv (r1026)) := eL1063 ▸ jg_eq
                  clear eL1063
                  refine jx_ld (pc_q := 177) (l_q := L1063) (st_q := [.int (i32 (r943))]) rfl (jl_iloadn g1067) ?_
                  refine jx_if_lt (pc_q := 180) (tg := 197) rfl rfl rfl (by omega) (by omega) (fun h1069 => ?_) (fun h1069 => ?_)
                  · have _q := h1069
                    refine jx_inc (pc_q := 200) (l_q := jSto1 L1063 1 (.int (i32 (k + (1))))) (x := k) rfl g1065 (by decide) rfl rfl ?_
                    obtain ⟨L1070, eL1070⟩ : ∃ q : jL, q = jSto1 L1063 1 (.int (i32 ((k + (1))))) := ⟨_, rfl⟩
                    rw [← eL1070]
                    have g1071 : jGet L1070 0 = some (rv (me)) := eL1070 ▸ jg_nr (by decide) g1064
                    have g1072 : jGet L1070 2 = some (.int (i32 (0))) := eL1070 ▸ jg_ne (by decide) g1066 rfl
                    have g1073 : jGet L1070 3 = some (.int (i32 (r943))) := eL1070 ▸ jg_ne (by decide) g1067 rfl
                    have g1074 : jGet L1070 4 = some (rv (r1026)) := eL1070 ▸ jg_nr (by decide) g1068
                    have g1075 : jGet L1070 1 = some (.int (i32 ((k + (1))))) := eL1070 ▸ jg_eq
                    clear eL1070
                    refine jx_go (tg := 69) rfl rfl ?_
                    have q1076 := tz_b (F1025 (sc) (15 : Int))
                    have q1077 := lz_b (F1025 (sc) (14 : Int))
                    exact ih _ (by omega) L1070 m1024 tg1024 ln1024 F1025 ((k + (1))) rfl g1071 g1075 hX1060 hC1028 hM1055 (by omega) (by omega) (by omega) (by omega) (by omega) (by omega) (by omega) (by omega) (by omega) (by omega) c1043 c1061 (CR_m c1062 (by omega))
                  · have _q := h1069
                    refine jx_ld (pc_q := 181) (l_q := L1063) (st_q := [.int (i32 (r943))]) rfl (jl_iloadn g1067) ?_
                    refine jx_ar (pc_q := 183) (st_q := [.int (i32 (6)), .int (i32 (r943))]) rfl rfl rfl rfl ?_
                    refine jx_icmp_ge (pc_q := 186) (tg := 197) rfl rfl rfl (by omega) (by omega) (by decide) (by decide) (fun h1078 => ?_) (fun h1078 => ?_)
                    · have _q := h1078
                      refine jx_inc (pc_q := 200) (l_q := jSto1 L1063 1 (.int (i32 (k + (1))))) (x := k) rfl g1065 (by decide) rfl rfl ?_
                      obtain ⟨L1079, eL1079⟩ : ∃ q : jL, q = jSto1 L1063 1 (.int (i32 ((k + (1))))) := ⟨_, rfl⟩
                      rw [← eL1079]
                      have g1080 : jGet L1079 0 = some (rv (me)) := eL1079 ▸ jg_nr (by decide) g1064
                      have g1081 : jGet L1079 2 = some (.int (i32 (0))) := eL1079 ▸ jg_ne (by decide) g1066 rfl
                      have g1082 : jGet L1079 3 = some (.int (i32 (r943))) := eL1079 ▸ jg_ne (by decide) g1067 rfl
                      have g1083 : jGet L1079 4 = some (rv (r1026)) := eL1079 ▸ jg_nr (by decide) g1068
                      have g1084 : jGet L1079 1 = some (.int (i32 ((k + (1))))) := eL1079 ▸ jg_eq
                      clear eL1079
                      refine jx_go (tg := 69) rfl rfl ?_
                      have q1085 := tz_b (F1025 (sc) (15 : Int))
                      have q1086 := lz_b (F1025 (sc) (14 : Int))
                      exact ih _ (by omega) L1079 m1024 tg1024 ln1024 F1025 ((k + (1))) rfl g1080 g1084 hX1060 hC1028 hM1055 (by omega) (by omega) (by omega) (by omega) (by omega) (by omega) (by omega) (by omega) (by omega) (by omega) c1043 c1061 (CR_m c1062 (by omega))
                    · have _q := h1078
                      refine jx_ld (pc_q := 187) (l_q := L1063) (st_q := [rv (me)]) rfl (jl_rvn g1064) ?_
                      refine cx_gr (pc_q := 190) (c := 8) (q := 0) (v := pg) rfl rfl (by decide) (by decide) rfl rfl ho1057.1 ho1057.2 (((show F1025 (me) (0 : Int) = F988 (me) (0 : Int) from hM1029 _ _ ho1013.1 (own_z ho1013.1) (by rw [ho1013.2]; rfl)).trans ((show F988 (me) (0 : Int) = F942 (me) (0 : Int) from hM991 _ _ ho972.1 (own_z ho972.1) (by rw [ho972.2]; rfl)).trans ((show F942 (me) (0 : Int) = F20 (me) (0 : Int) from hM946 _ _ ho45.1 (own_z ho45.1) (by rw [ho45.2]; rfl)).trans ((show F20 (me) (0 : Int) = Fx (me) (0 : Int) from hM23 _ _ ho2.1 (own_z ho2.1) (by rw [ho2.2]; rfl)).trans (show Fx (me) (0 : Int) = F (me) (0 : Int) from hMx _ _ o_me (own_z o_me) (by rw [t_me]; rfl)))))).trans e_pg) ?_
                      refine cx_gr (pc_q := 193) (c := 9) (q := 3) (v := F (pg) (3 : Int)) rfl rfl (by decide) (by decide) rfl rfl ho1059.1 ho1059.2 ((show F1025 (pg) (3 : Int) = F988 (pg) (3 : Int) from hM1029 _ _ ho1015.1 (own_z ho1015.1) (by rw [ho1015.2]; rfl)).trans ((show F988 (pg) (3 : Int) = F942 (pg) (3 : Int) from hM991 _ _ ho974.1 (own_z ho974.1) (by rw [ho974.2]; rfl)).trans ((show F942 (pg) (3 : Int) = F20 (pg) (3 : Int) from hM946 _ _ ho47.1 (own_z ho47.1) (by rw [ho47.2]; rfl)).trans ((show F20 (pg) (3 : Int) = Fx (pg) (3 : Int) from hM23 _ _ ho4.1 (own_z ho4.1) (by rw [ho4.2]; rfl)).trans (show Fx (pg) (3 : Int) = F (pg) (3 : Int) from hMx _ _ o_pg (own_z o_pg) (by rw [t_pg]; rfl)))))) ?_
                      have y1087 : own m1024 (F (pg) (3 : Int)) ∧ tg1024 (F (pg) (3 : Int)) = 24 ∧ ((6 : Int) ≠ 0 → ln1024 (F (pg) (3 : Int)) = 6) := by have z := HC_n (c := 9) (q := 3) hC1028 ho1059.1 ho1059.2 (own_z ho1059.1) (by decide) rfl; rw [show F1025 (pg) ((3 : Nat) : Int) = F (pg) (3 : Int) from ((show F1025 (pg) (3 : Int) = F988 (pg) (3 : Int) from hM1029 _ _ ho1015.1 (own_z ho1015.1) (by rw [ho1015.2]; rfl)).trans ((show F988 (pg) (3 : Int) = F942 (pg) (3 : Int) from hM991 _ _ ho974.1 (own_z ho974.1) (by rw [ho974.2]; rfl)).trans ((show F942 (pg) (3 : Int) = F20 (pg) (3 : Int) from hM946 _ _ ho47.1 (own_z ho47.1) (by rw [ho47.2]; rfl)).trans ((show F20 (pg) (3 : Int) = Fx (pg) (3 : Int) from hM23 _ _ ho4.1 (own_z ho4.1) (by rw [ho4.2]; rfl)).trans (show Fx (pg) (3 : Int) = F (pg) (3 : Int) from hMx _ _ o_pg (own_z o_pg) (by rw [t_pg]; rfl))))))] at z; exact ⟨z.1, z.2.1, z.2.2.1⟩
                      have ly1087 : ln1024 (F (pg) (3 : Int)) = 6 := y1087.2.2 (by decide)
                      refine jx_ld (pc_q := 194) (l_q := L1063) (st_q := [.int (i32 (r943)), rv (F (pg) (3 : Int))]) rfl (jl_iloadn g1067) ?_
                      refine jx_ld (pc_q := 196) (l_q := L1063) (st_q := [rv (r1026), .int (i32 (r943)), rv (F (pg) (3 : Int))]) rfl (jl_rv g1068) ?_
                      have b1088 := HC_l hC1028 y1087.1 y1087.2.1 (by decide)
                      refine cx_aas (pc_q := 197) (c := 7) (z := r943) (y := r1026) rfl rfl y1087.1 (by rw [y1087.2.1]; decide) (by omega) (by omega) (by omega) (fun hz => (Or.inr ⟨b1030.1, b1030.2⟩).resolve_left hz) (by decide) (by rw [y1087.2.1]; rfl) ?_
                      obtain ⟨F1089, eF1089⟩ : ∃ q, q = uF F1025 (F (pg) (3 : Int)) (r943) (r1026) := ⟨_, rfl⟩
                      rw [← eF1089]
                      have hC1090 : HC 0 m1024 tg1024 ln1024 F1089 := by rw [eF1089]; exact HC_pa hC1028 y1087.1 y1087.2.1 (by decide) (by omega) (Or.inr ⟨b1030.1, b1030.2⟩)
                      have hM1091 : Fq 0 [(7, 15), (9, 2), (9, 3), (10, 0), (10, 1), (10, 2), (10, 7), (10, 8), (10, 9), (11, 8), (11, 12), (11, 13), (11, 14), (11, 15), (11, 16), (11, 17), (11, 18), (24, -5), (26, -5)] m tg F F1089 := by rw [eF1089]; exact Fq_p hM1055 y1087.2.1 (fun w => (hX1060.2 _ w).1) (inL_a rfl (by omega) rfl)
                      have c1092 : NP m1024 tg1024 F1089 := by rw [eF1089]; exact NP_rt hC1028 c1043 y1087.2.1 (show F1025 (F (pg) (3 : Int)) (-1) = 0 by have z := HC_n (c := 9) (q := 3) hC1028 ho1059.1 ho1059.2 (own_z ho1059.1) (by decide) rfl; rw [show F1025 (pg) ((3 : Nat) : Int) = F (pg) (3 : Int) from ((show F1025 (pg) (3 : Int) = F988 (pg) (3 : Int) from hM1029 _ _ ho1015.1 (own_z ho1015.1) (by rw [ho1015.2]; rfl)).trans ((show F988 (pg) (3 : Int) = F942 (pg) (3 : Int) from hM991 _ _ ho974.1 (own_z ho974.1) (by rw [ho974.2]; rfl)).trans ((show F942 (pg) (3 : Int) = F20 (pg) (3 : Int) from hM946 _ _ ho47.1 (own_z ho47.1) (by rw [ho47.2]; rfl)).trans ((show F20 (pg) (3 : Int) = Fx (pg) (3 : Int) from hM23 _ _ ho4.1 (own_z ho4.1) (by rw [ho4.2]; rfl)).trans (show Fx (pg) (3 : Int) = F (pg) (3 : Int) from hMx _ _ o_pg (own_z o_pg) (by rw [t_pg]; rfl))))))] at z; exact z.2.2.2 (by decide)) (by omega) (SN_i b1030.1 b1030.2 (by omega) (by omega) (by omega))
                      have c1093 : CR m1024 tg1024 F1089 (F pg (3 : Int)) ((cr + k) + 1) := by rw [eF1089]; exact CR_p c1062
                      refine jx_inc (pc_q := 200) (l_q := jSto1 L1063 1 (.int (i32 (k + (1))))) (x := k) rfl g1065 (by decide) rfl rfl ?_
                      obtain ⟨L1094, eL1094⟩ : ∃ q : jL, q = jSto1 L1063 1 (.int (i32 ((k + (1))))) := ⟨_, rfl⟩
                      rw [← eL1094]
                      have g1095 : jGet L1094 0 = some (rv (me)) := eL1094 ▸ jg_nr (by decide) g1064
                      have g1096 : jGet L1094 2 = some (.int (i32 (0))) := eL1094 ▸ jg_ne (by decide) g1066 rfl
                      have g1097 : jGet L1094 3 = some (.int (i32 (r943))) := eL1094 ▸ jg_ne (by decide) g1067 rfl
                      have g1098 : jGet L1094 4 = some (rv (r1026)) := eL1094 ▸ jg_nr (by decide) g1068
                      have g1099 : jGet L1094 1 = some (.int (i32 ((k + (1))))) := eL1094 ▸ jg_eq
                      clear eL1094
                      refine jx_go (tg := 69) rfl rfl ?_
                      have q1100 : F1089 (sc) (8 : Int) = F1025 (sc) (8 : Int) := (show F1089 (sc) (8 : Int) = F1025 (sc) (8 : Int) from by rw [eF1089]; exact uF_a (fun w => by have q1 := ho1058.2; have q2 := y1087.2.1; rw [w, q2] at q1; exact absurd q1 (by decide)))
                      have q1101 : F1089 (sc) (15 : Int) = F1025 (sc) (15 : Int) := (show F1089 (sc) (15 : Int) = F1025 (sc) (15 : Int) from by rw [eF1089]; exact uF_a (fun w => by have q1 := ho1058.2; have q2 := y1087.2.1; rw [w, q2] at q1; exact absurd q1 (by decide)))
                      have q1102 : tz (F1089 (sc) (15 : Int)) = tz (F1025 (sc) (15 : Int)) := by rw [q1101]
                      have q1103 := tz_b (F1025 (sc) (15 : Int))
                      have q1104 : F1089 (sc) (14 : Int) = F1025 (sc) (14 : Int) := (show F1089 (sc) (14 : Int) = F1025 (sc) (14 : Int) from by rw [eF1089]; exact uF_a (fun w => by have q1 := ho1058.2; have q2 := y1087.2.1; rw [w, q2] at q1; exact absurd q1 (by decide)))
                      have q1105 : lz (F1089 (sc) (14 : Int)) = lz (F1025 (sc) (14 : Int)) := by rw [q1104]
                      have q1106 := lz_b (F1025 (sc) (14 : Int))
                      have q1107 : F1089 (pg) (9 : Int) = F1025 (pg) (9 : Int) := (show F1089 (pg) (9 : Int) = F1025 (pg) (9 : Int) from by rw [eF1089]; exact uF_a (fun w => by have q1 := ho1059.2; have q2 := y1087.2.1; rw [w, q2] at q1; exact absurd q1 (by decide)))
                      exact ih _ (by omega) L1094 m1024 tg1024 ln1024 F1089 ((k + (1))) rfl g1095 g1099 hX1060 hC1090 hM1091 (by omega) (by omega) (by omega) (by omega) (by omega) (by omega) (by omega) (by omega) (by omega) (by omega) c1092 c1061 (CR_m c1093 (by omega))
                · have _q := h936
                  exact absurd h936 (by omega)
            · have _q := h757
              have ho1108 : own m19 (F20 (F (pg) (3 : Int)) (F20 (sc) (17 : Int))) ∧ tg19 (F20 (F (pg) (3 : Int)) (F20 (sc) (17 : Int))) = 8 := y756.resolve_left h757
              refine jx_ar (pc_q := 134) (st_q := [.int (i32 (1))]) rfl rfl rfl rfl ?_
              refine jx_go (tg := 138) rfl rfl ?_
              refine jx_ld (pc_q := 139) (l_q := jSto1 L 2 (.int (i32 (1)))) (st_q := []) rfl rfl ?_
              obtain ⟨L1109, eL1109⟩ : ∃ q : jL, q = jSto1 L 2 (.int (i32 (1))) := ⟨_, rfl⟩
              rw [← eL1109]
              have g1110 : jGet L1109 0 = some (rv (me)) := eL1109 ▸ jg_nr (by decide) gL_0
              have g1111 : jGet L1109 1 = some (.int (i32 (k))) := eL1109 ▸ jg_ne (by decide) gL_1 rfl
              have g1112 : jGet L1109 2 = some (.int (i32 (1))) := eL1109 ▸ jg_eq
              clear eL1109
              refine jx_ld (pc_q := 140) (l_q := L1109) (st_q := [rv (me)]) rfl (jl_rvn g1110) ?_
              refine cx_gr (pc_q := 143) (c := 8) (q := 1) (v := sc) rfl rfl (by decide) (by decide) rfl rfl ho45.1 ho45.2 (((show F20 (me) (1 : Int) = Fx (me) (1 : Int) from hM23 _ _ ho2.1 (own_z ho2.1) (by rw [ho2.2]; rfl)).trans (show Fx (me) (1 : Int) = F (me) (1 : Int) from hMx _ _ o_me (own_z o_me) (by rw [t_me]; rfl))).trans e_sc) ?_
              refine cx_gi (pc_q := 146) (c := 10) (q := 15) (v := F20 (sc) (15 : Int)) rfl rfl (by decide) (by decide) (Or.inl rfl) rfl ho46.1 ho46.2 rfl ?_
              have b1113 : (-2147483648 : Int) ≤ F20 (sc) (15 : Int) ∧ F20 (sc) (15 : Int) ≤ 2147483647 := by have z := HC_i (c := 10) (q := 15) hC22 ho46.1 ho46.2 (by decide) rfl; rw [show F20 (sc) ((15 : Nat) : Int) = F20 (sc) (15 : Int) from rfl] at z; exact z
              refine jx_ar (pc_q := 147) (st_q := [.int (i32 (3)), .int (i32 (F20 (sc) (15 : Int)))]) rfl rfl rfl rfl ?_
              refine jx_icmp_ne (pc_q := 150) (tg := 158) rfl rfl rfl (by omega) (by omega) (by decide) (by decide) (fun h1114 => ?_) (fun h1114 => ?_)
              · have _q := h1114
                refine jx_ld (pc_q := 159) (l_q := L1109) (st_q := [rv (me)]) rfl (jl_rvn g1110) ?_
                refine jx_ar (pc_q := 160) (st_q := [.int (i32 (0)), rv (me)]) rfl rfl rfl rfl ?_
                refine jx_ar (pc_q := 161) (st_q := [.int (i32 (5)), .int (i32 (0)), rv (me)]) rfl rfl rfl rfl ?_
                have q1115 := tz_b (F20 (sc) (15 : Int))
                have q1116 : F20 (sc) (7 : Int) = F (sc) (7 : Int) := ((show F20 (sc) (7 : Int) = Fx (sc) (7 : Int) from hM23 _ _ ho3.1 (own_z ho3.1) (by rw [ho3.2]; rfl)).trans (show Fx (sc) (7 : Int) = F (sc) (7 : Int) from hMx _ _ o_sc (own_z o_sc) (by rw [t_sc]; rfl)))
                have q1117 := lz_b (F20 (sc) (14 : Int))
                have q1118 : F20 (pg) (9 : Int) = Fx (pg) (9 : Int) := (show F20 (pg) (9 : Int) = Fx (pg) (9 : Int) from hM23 _ _ ho4.1 (own_z ho4.1) (by rw [ho4.2]; rfl))
                refine cx_vi (c := 8) (a := me) (st := []) (as := [.int (i32 (0)), .int (i32 (5))]) rfl rfl rfl ho45.1 ho45.2 (by decide) rfl ⟨rfl, rfl, (Nat.le_of_ble_eq_true rfl)⟩ rfl (k_LParser_readNumber (dd := d) (R := R) (m := m19) (tg := tg19) (ln := ln19) (F := F20) (me := me) (le := 0) (mo := 5) (hd := by omega) (hC := hC22) (o_me := ho45.1) (t_me := ho45.2) (h_le := by omega) (h_mo := by omega) (sc := sc) (pg := pg) (o_sc := ho46.1) (t_sc := ho46.2) (e_sc := (((show F20 (me) (1 : Int) = Fx (me) (1 : Int) from hM23 _ _ ho2.1 (own_z ho2.1) (by rw [ho2.2]; rfl)).trans (show Fx (me) (1 : Int) = F (me) (1 : Int) from hMx _ _ o_me (own_z o_me) (by rw [t_me]; rfl))).trans e_sc)) (o_pg := ho47.1) (t_pg := ho47.2) (e_pg := (((show F20 (me) (0 : Int) = Fx (me) (0 : Int) from hM23 _ _ ho2.1 (own_z ho2.1) (by rw [ho2.2]; rfl)).trans (show Fx (me) (0 : Int) = F (me) (0 : Int) from hMx _ _ o_me (own_z o_me) (by rw [t_me]; rfl))).trans e_pg)) (p_0 := by omega) (p_1 := by omega) (p_2 := by omega) (c_NP := c31)) (fun o V_q hq => ?_)
                obtain ⟨m1119, tg1119, ln1119, F1120, r1121, rfl, rfl, hx1122, hC1123, hM1124, b1125, p1126, p1127, p1128, p1129, p1130, p1131, p1132, p1133, p1134, p1135, c1136, c1137, -⟩ | ⟨m1138, tg1138, ln1138, F1138, x1138, rfl, rfl, hx1138, hC1138, hM1138, ho1138, ht1138, p1139, p1140, p1141, p1142, c1143, c1144, -⟩ := hq
                rotate_left
                ·
                  have c1145 : NM m m1138 tg1138 := NM_t c49 hx1138 c1144
                  have lm1146 := hx1138.1
                  refine Or.inr (Or.inr (Or.inr ⟨_, _, rfl, cx_exc (c := 15) ho1138 ht1138 (by decide), rfl, ?_⟩))
                  have q1147 : F20 (sc) (7 : Int) = F (sc) (7 : Int) := q1116
                  exact Or.inr ⟨m1138, tg1138, ln1138, F1138, x1138, rfl, rfl, Ex_t hX48 hx1138, hC1138, Fq_t (ln := ln) (ln1 := ln19) hM43 hX48 hM1138 (by decide) (Or.inl rfl), (And.intro ho1138 ht1138).1, (And.intro ho1138 ht1138).2, by omega, by omega, by omega, by omega, c1143, c1145, trivial⟩
                have hM1148 : Fq 0 [(7, 15), (9, 2), (9, 3), (10, 0), (10, 1), (10, 2), (10, 7), (10, 8), (10, 9), (11, 8), (11, 12), (11, 13), (11, 14), (11, 15), (11, 16), (11, 17), (11, 18), (24, -5), (26, -5)] m tg F F1120 := Fq_t (ln := ln) (ln1 := ln19) hM43 hX48 hM1124 (by decide) (Or.inl rfl)
                have lm1149 := hx1122.1
                have ho1150 : own m1119 (me) ∧ tg1119 (me) = 9 := Ex_o hx1122 ⟨ho45.1, ho45.2⟩
                have ho1151 : own m1119 (sc) ∧ tg1119 (sc) = 11 := Ex_o hx1122 ⟨ho46.1, ho46.2⟩
                have ho1152 : own m1119 (pg) ∧ tg1119 (pg) = 10 := Ex_o hx1122 ⟨ho47.1, ho47.2⟩
                have hX1153 := Ex_t hX48 hx1122
                have c1154 : NM m m1119 tg1119 := NM_t c49 hx1122 c1137
                have c1155 : CR m1119 tg1119 F1120 (F pg (3 : Int)) (cr + k) := CR_x c50 hx1122 hM1124 rfl
                refine Or.inr (Or.inl ⟨_, rfl, ?_⟩)
                refine jx_ld (pc_q := 165) (l_q := jSto1 L1109 3 (.int (i32 (r1121)))) (st_q := []) rfl rfl ?_
                obtain ⟨L1156, eL1156⟩ : ∃ q : jL, q = jSto1 L1109 3 (.int (i32 (r1121))) := ⟨_, rfl⟩
                rw [← eL1156]
                have g1157 : jGet L1156 0 = some (rv (me)) := eL1156 ▸ jg_nr (by decide) g1110
                have g1158 : jGet L1156 1 = some (.int (i32 (k))) := eL1156 ▸ jg_ne (by decide) g1111 rfl
                have g1159 : jGet L1156 2 = some (.int (i32 (1))) := eL1156 ▸ jg_ne (by decide) g1112 rfl
                have g1160 : jGet L1156 3 = some (.int (i32 (r1121))) := eL1156 ▸ jg_eq
                clear eL1156
                refine jx_ld (pc_q := 166) (l_q := L1156) (st_q := [rv (me)]) rfl (jl_rvn g1157) ?_
                have q1161 := tz_b (F1120 (sc) (15 : Int))
                have q1162 : F1120 (sc) (7 : Int) = F (sc) (7 : Int) := ((show F1120 (sc) (7 : Int) = F20 (sc) (7 : Int) from hM1124 _ _ ho46.1 (own_z ho46.1) (by rw [ho46.2]; rfl)).trans q1116)
                have q1163 := lz_b (F1120 (sc) (14 : Int))
                have q1164 : F1120 (pg) (9 : Int) = Fx (pg) (9 : Int) := ((show F1120 (pg) (9 : Int) = F20 (pg) (9 : Int) from hM1124 _ _ ho47.1 (own_z ho47.1) (by rw [ho47.2]; rfl)).trans q1118)
                refine cx_vi (c := 8) (a := me) (st := []) (as := []) rfl rfl rfl ho1150.1 ho1150.2 (by decide) rfl ⟨rfl, rfl, (Nat.le_of_ble_eq_true rfl)⟩ rfl (k_LParser_endLine (dd := d) (R := R) (m := m1119) (tg := tg1119) (ln := ln1119) (F := F1120) (me := me) (hd := by omega) (hC := hC1123) (o_me := ho1150.1) (t_me := ho1150.2) (sc := sc) (pg := pg) (o_sc := ho1151.1) (t_sc := ho1151.2) (e_sc := (((show F1120 (me) (1 : Int) = F20 (me) (1 : Int) from hM1124 _ _ ho45.1 (own_z ho45.1) (by rw [ho45.2]; rfl)).trans ((show F20 (me) (1 : Int) = Fx (me) (1 : Int) from hM23 _ _ ho2.1 (own_z ho2.1) (by rw [ho2.2]; rfl)).trans (show Fx (me) (1 : Int) = F (me) (1 : Int) from hMx _ _ o_me (own_z o_me) (by rw [t_me]; rfl)))).trans e_sc)) (o_pg := ho1152.1) (t_pg := ho1152.2) (e_pg := (((show F1120 (me) (0 : Int) = F20 (me) (0 : Int) from hM1124 _ _ ho45.1 (own_z ho45.1) (by rw [ho45.2]; rfl)).trans ((show F20 (me) (0 : Int) = Fx (me) (0 : Int) from hM23 _ _ ho2.1 (own_z ho2.1) (by rw [ho2.2]; rfl)).trans (show Fx (me) (0 : Int) = F (me) (0 : Int) from hMx _ _ o_me (own_z o_me) (by rw [t_me]; rfl)))).trans e_pg)) (p_0 := by omega) (p_1 := by omega) (p_2 := by omega) (c_NP := c1136)) (fun o V_q hq => ?_)
                obtain ⟨m1165, tg1165, ln1165, F1166, rfl, rfl, hx1167, hC1168, hM1169, p1170, p1171, p1172, p1173, p1174, p1175, p1176, c1177, c1178, -⟩ | ⟨m1179, tg1179, ln1179, F1179, x1179, rfl, rfl, hx1179, hC1179, hM1179, ho1179, ht1179, p1180, p1181, p1182, p1183, c1184, c1185, -⟩ := hq
                rotate_left
                ·
                  have c1186 : NM m m1179 tg1179 := NM_t c1154 hx1179 c1185
                  have lm1187 := hx1179.1
                  refine Or.inr (Or.inr (Or.inr ⟨_, _, rfl, cx_exc (c := 15) ho1179 ht1179 (by decide), rfl, ?_⟩))
                  have q1188 : F1120 (sc) (7 : Int) = F (sc) (7 : Int) := q1162
                  exact Or.inr ⟨m1179, tg1179, ln1179, F1179, x1179, rfl, rfl, Ex_t hX1153 hx1179, hC1179, Fq_t (ln := ln) (ln1 := ln1119) hM1148 hX1153 hM1179 (by decide) (Or.inl rfl), (And.intro ho1179 ht1179).1, (And.intro ho1179 ht1179).2, by omega, by omega, by omega, by omega, c1184, c1186, trivial⟩
                have hM1189 : Fq 0 [(7, 15), (9, 2), (9, 3), (10, 0), (10, 1), (10, 2), (10, 7), (10, 8), (10, 9), (11, 8), (11, 12), (11, 13), (11, 14), (11, 15), (11, 16), (11, 17), (11, 18), (24, -5), (26, -5)] m tg F F1166 := Fq_t (ln := ln) (ln1 := ln1119) hM1148 hX1153 hM1169 (by decide) (Or.inl rfl)
                have lm1190 := hx1167.1
                have ho1191 : own m1165 (me) ∧ tg1165 (me) = 9 := Ex_o hx1167 ⟨ho1150.1, ho1150.2⟩
                have ho1192 : own m1165 (sc) ∧ tg1165 (sc) = 11 := Ex_o hx1167 ⟨ho1151.1, ho1151.2⟩
                have ho1193 : own m1165 (pg) ∧ tg1165 (pg) = 10 := Ex_o hx1167 ⟨ho1152.1, ho1152.2⟩
                have hX1194 := Ex_t hX1153 hx1167
                have c1195 : NM m m1165 tg1165 := NM_t c1154 hx1167 c1178
                have c1196 : CR m1165 tg1165 F1166 (F pg (3 : Int)) (cr + k) := CR_x c1155 hx1167 hM1169 rfl
                refine Or.inl ⟨rfl, ?_⟩
                refine jx_ld (pc_q := 170) (l_q := L1156) (st_q := [rv (me)]) rfl (jl_rvn g1157) ?_
                refine jx_ar (pc_q := 171) (st_q := [.int (i32 (2)), rv (me)]) rfl rfl rfl rfl ?_
                have q1197 := tz_b (F1166 (sc) (15 : Int))
                have q1198 : F1166 (sc) (7 : Int) = F (sc) (7 : Int) := ((show F1166 (sc) (7 : Int) = F1120 (sc) (7 : Int) from hM1169 _ _ ho1151.1 (own_z ho1151.1) (by rw [ho1151.2]; rfl)).trans q1162)
                have q1199 := lz_b (F1166 (sc) (14 : Int))
                have q1200 : F1166 (pg) (9 : Int) = Fx (pg) (9 : Int) := ((show F1166 (pg) (9 : Int) = F1120 (pg) (9 : Int) from hM1169 _ _ ho1152.1 (own_z ho1152.1) (by rw [ho1152.2]; rfl)).trans q1164)
                have q1201 : F1166 (me) (2 : Int) = Fx (me) (2 : Int) := ((show F1166 (me) (2 : Int) = F1120 (me) (2 : Int) from hM1169 _ _ ho1150.1 (own_z ho1150.1) (by rw [ho1150.2]; rfl)).trans ((show F1120 (me) (2 : Int) = F20 (me) (2 : Int) from hM1124 _ _ ho45.1 (own_z ho45.1) (by rw [ho45.2]; rfl)).trans (show F20 (me) (2 : Int) = Fx (me) (2 : Int) from hM23 _ _ ho2.1 (own_z ho2.1) (by rw [ho2.2]; rfl))))
                refine cx_vi (c := 8) (a := me) (st := []) (as := [.int (i32 (2))]) rfl rfl rfl ho1191.1 ho1191.2 (by decide) rfl ⟨rfl, rfl, (Nat.le_of_ble_eq_true rfl)⟩ rfl (PPx_all X 18 (dd := d) (R := R) (m := m1165) (tg := tg1165) (ln := ln1165) (F := F1166) (me := me) (lv := 2) (hd := by omega) (hC := hC1168) (o_me := ho1191.1) (t_me := ho1191.2) (h_lv := by omega) (sc := sc) (pg := pg) (o_sc := ho1192.1) (t_sc := ho1192.2) (e_sc := (((show F1166 (me) (1 : Int) = F1120 (me) (1 : Int) from hM1169 _ _ ho1150.1 (own_z ho1150.1) (by rw [ho1150.2]; rfl)).trans ((show F1120 (me) (1 : Int) = F20 (me) (1 : Int) from hM1124 _ _ ho45.1 (own_z ho45.1) (by rw [ho45.2]; rfl)).trans ((show F20 (me) (1 : Int) = Fx (me) (1 : Int) from hM23 _ _ ho2.1 (own_z ho2.1) (by rw [ho2.2]; rfl)).trans (show Fx (me) (1 : Int) = F (me) (1 : Int) from hMx _ _ o_me (own_z o_me) (by rw [t_me]; rfl))))).trans e_sc)) (o_pg := ho1193.1) (t_pg := ho1193.2) (e_pg := (((show F1166 (me) (0 : Int) = F1120 (me) (0 : Int) from hM1169 _ _ ho1150.1 (own_z ho1150.1) (by rw [ho1150.2]; rfl)).trans ((show F1120 (me) (0 : Int) = F20 (me) (0 : Int) from hM1124 _ _ ho45.1 (own_z ho45.1) (by rw [ho45.2]; rfl)).trans ((show F20 (me) (0 : Int) = Fx (me) (0 : Int) from hM23 _ _ ho2.1 (own_z ho2.1) (by rw [ho2.2]; rfl)).trans (show Fx (me) (0 : Int) = F (me) (0 : Int) from hMx _ _ o_me (own_z o_me) (by rw [t_me]; rfl))))).trans e_pg)) (p_0 := by omega) (p_1 := by omega) (p_2 := by omega) (p_3 := by omega) (c_NP := c1177)) (fun o V_q hq => ?_)
                obtain ⟨m1202, tg1202, ln1202, F1203, r1204, rfl, rfl, hx1205, hC1206, hM1207, b1208, p1209, p1210, p1211, p1212, p1213, p1214, p1215, p1216, p1217, p1218, p1219, p1220, c1221, c1222, -⟩ | ⟨m1223, tg1223, ln1223, F1223, x1223, rfl, rfl, hx1223, hC1223, hM1223, ho1223, ht1223, p1224, p1225, p1226, p1227, c1228, c1229, -⟩ := hq
                rotate_left
                ·
                  have c1230 : NM m m1223 tg1223 := NM_t c1195 hx1223 c1229
                  have lm1231 := hx1223.1
                  refine Or.inr (Or.inr (Or.inr ⟨_, _, rfl, cx_exc (c := 15) ho1223 ht1223 (by decide), rfl, ?_⟩))
                  have q1232 : F1166 (sc) (7 : Int) = F (sc) (7 : Int) := q1198
                  exact Or.inr ⟨m1223, tg1223, ln1223, F1223, x1223, rfl, rfl, Ex_t hX1194 hx1223, hC1223, Fq_t (ln := ln) (ln1 := ln1165) hM1189 hX1194 hM1223 (by decide) (Or.inl rfl), (And.intro ho1223 ht1223).1, (And.intro ho1223 ht1223).2, by omega, by omega, by omega, by omega, c1228, c1230, trivial⟩
                have hM1233 : Fq 0 [(7, 15), (9, 2), (9, 3), (10, 0), (10, 1), (10, 2), (10, 7), (10, 8), (10, 9), (11, 8), (11, 12), (11, 13), (11, 14), (11, 15), (11, 16), (11, 17), (11, 18), (24, -5), (26, -5)] m tg F F1203 := Fq_t (ln := ln) (ln1 := ln1165) hM1189 hX1194 hM1207 (by decide) (Or.inl rfl)
                have lm1234 := hx1205.1
                have ho1235 : own m1202 (me) ∧ tg1202 (me) = 9 := Ex_o hx1205 ⟨ho1191.1, ho1191.2⟩
                have ho1236 : own m1202 (sc) ∧ tg1202 (sc) = 11 := Ex_o hx1205 ⟨ho1192.1, ho1192.2⟩
                have ho1237 : own m1202 (pg) ∧ tg1202 (pg) = 10 := Ex_o hx1205 ⟨ho1193.1, ho1193.2⟩
                have hX1238 := Ex_t hX1194 hx1205
                have c1239 : NM m m1202 tg1202 := NM_t c1195 hx1205 c1222
                have c1240 : CR m1202 tg1202 F1203 (F pg (3 : Int)) (cr + k) := CR_x c1196 hx1205 hM1207 rfl
                refine Or.inr (Or.inl ⟨_, rfl, ?_⟩)
                have rl : r1204 < 64 + (m1202 : Int) := b1208.1.2.1
                refine jx_ld (pc_q := 176) (l_q := jSto1 L1156 4 (rv (r1204))) (st_q := []) rfl (js_rv (by decide)) ?_
                obtain ⟨L1241, eL1241⟩ : ∃ q : jL, q = jSto1 L1156 4 (rv (r1204)) := ⟨_, rfl⟩
                rw [← eL1241]
                have g1242 : jGet L1241 0 = some (rv (me)) := eL1241 ▸ jg_nr (by decide) g1157
                have g1243 : jGet L1241 1 = some (.int (i32 (k))) := eL1241 ▸ jg_ne (by decide) g1158 rfl
                have g1244 : jGet L1241 2 = some (.int (i32 (1))) := eL1241 ▸ jg_ne (by decide) g1159 rfl
                have g1245 : jGet L1241 3 = some (.int (i32 (r1121))) := eL1241 ▸ jg_ne (by decide) g1160 rfl
                have g1246 : jGet L1241 4 = some (rv (r1204)) := eL1241 ▸ jg_eq
                clear eL1241
                refine jx_ld (pc_q := 177) (l_q := L1241) (st_q := [.int (i32 (r1121))]) rfl (jl_iloadn g1245) ?_
                refine jx_if_lt (pc_q := 180) (tg := 197) rfl rfl rfl (by omega) (by omega) (fun h1247 => ?_) (fun h1247 => ?_)
                · have _q := h1247
                  refine jx_inc (pc_q := 200) (l_q := jSto1 L1241 1 (.int (i32 (k + (1))))) (x := k) rfl g1243 (by decide) rfl rfl ?_
                  obtain ⟨L1248, eL1248⟩ : ∃ q : jL, q = jSto1 L1241 1 (.int (i32 ((k + (1))))) := ⟨_, rfl⟩
                  rw [← eL1248]
                  have g1249 : jGet L1248 0 = some (rv (me)) := eL1248 ▸ jg_nr (by decide) g1242
                  have g1250 : jGet L1248 2 = some (.int (i32 (1))) := eL1248 ▸ jg_ne (by decide) g1244 rfl
                  have g1251 : jGet L1248 3 = some (.int (i32 (r1121))) := eL1248 ▸ jg_ne (by decide) g1245 rfl
                  have g1252 : jGet L1248 4 = some (rv (r1204)) := eL1248 ▸ jg_nr (by decide) g1246
                  have g1253 : jGet L1248 1 = some (.int (i32 ((k + (1))))) := eL1248 ▸ jg_eq
                  clear eL1248
                  refine jx_go (tg := 69) rfl rfl ?_
                  have q1254 := tz_b (F1203 (sc) (15 : Int))
                  have q1255 := lz_b (F1203 (sc) (14 : Int))
                  exact ih _ (by omega) L1248 m1202 tg1202 ln1202 F1203 ((k + (1))) rfl g1249 g1253 hX1238 hC1206 hM1233 (by omega) (by omega) (by omega) (by omega) (by omega) (by omega) (by omega) (by omega) (by omega) (by omega) c1221 c1239 (CR_m c1240 (by omega))
                · have _q := h1247
                  refine jx_ld (pc_q := 181) (l_q := L1241) (st_q := [.int (i32 (r1121))]) rfl (jl_iloadn g1245) ?_
                  refine jx_ar (pc_q := 183) (st_q := [.int (i32 (6)), .int (i32 (r1121))]) rfl rfl rfl rfl ?_
                  refine jx_icmp_ge (pc_q := 186) (tg := 197) rfl rfl rfl (by omega) (by omega) (by decide) (by decide) (fun h1256 => ?_) (fun h1256 => ?_)
                  · have _q := h1256
                    refine jx_inc (pc_q := 200) (l_q := jSto1 L1241 1 (.int (i32 (k + (1))))) (x := k) rfl g1243 (by decide) rfl rfl ?_
                    obtain ⟨L1257, eL1257⟩ : ∃ q : jL, q = jSto1 L1241 1 (.int (i32 ((k + (1))))) := ⟨_, rfl⟩
                    rw [← eL1257]
                    have g1258 : jGet L1257 0 = some (rv (me)) := eL1257 ▸ jg_nr (by decide) g1242
                    have g1259 : jGet L1257 2 = some (.int (i32 (1))) := eL1257 ▸ jg_ne (by decide) g1244 rfl
                    have g1260 : jGet L1257 3 = some (.int (i32 (r1121))) := eL1257 ▸ jg_ne (by decide) g1245 rfl
                    have g1261 : jGet L1257 4 = some (rv (r1204)) := eL1257 ▸ jg_nr (by decide) g1246
                    have g1262 : jGet L1257 1 = some (.int (i32 ((k + (1))))) := eL1257 ▸ jg_eq
                    clear eL1257
                    refine jx_go (tg := 69) rfl rfl ?_
                    have q1263 := tz_b (F1203 (sc) (15 : Int))
                    have q1264 := lz_b (F1203 (sc) (14 : Int))
                    exact ih _ (by omega) L1257 m1202 tg1202 ln1202 F1203 ((k + (1))) rfl g1258 g1262 hX1238 hC1206 hM1233 (by omega) (by omega) (by omega) (by omega) (by omega) (by omega) (by omega) (by omega) (by omega) (by omega) c1221 c1239 (CR_m c1240 (by omega))
                  · have _q := h1256
                    refine jx_ld (pc_q := 187) (l_q := L1241) (st_q := [rv (me)]) rfl (jl_rvn g1242) ?_
                    refine cx_gr (pc_q := 190) (c := 8) (q := 0) (v := pg) rfl rfl (by decide) (by decide) rfl rfl ho1235.1 ho1235.2 (((show F1203 (me) (0 : Int) = F1166 (me) (0 : Int) from hM1207 _ _ ho1191.1 (own_z ho1191.1) (by rw [ho1191.2]; rfl)).trans ((show F1166 (me) (0 : Int) = F1120 (me) (0 : Int) from hM1169 _ _ ho1150.1 (own_z ho1150.1) (by rw [ho1150.2]; rfl)).trans ((show F1120 (me) (0 : Int) = F20 (me) (0 : Int) from hM1124 _ _ ho45.1 (own_z ho45.1) (by rw [ho45.2]; rfl)).trans ((show F20 (me) (0 : Int) = Fx (me) (0 : Int) from hM23 _ _ ho2.1 (own_z ho2.1) (by rw [ho2.2]; rfl)).trans (show Fx (me) (0 : Int) = F (me) (0 : Int) from hMx _ _ o_me (own_z o_me) (by rw [t_me]; rfl)))))).trans e_pg) ?_
                    refine cx_gr (pc_q := 193) (c := 9) (q := 3) (v := F (pg) (3 : Int)) rfl rfl (by decide) (by decide) rfl rfl ho1237.1 ho1237.2 ((show F1203 (pg) (3 : Int) = F1166 (pg) (3 : Int) from hM1207 _ _ ho1193.1 (own_z ho1193.1) (by rw [ho1193.2]; rfl)).trans ((show F1166 (pg) (3 : Int) = F1120 (pg) (3 : Int) from hM1169 _ _ ho1152.1 (own_z ho1152.1) (by rw [ho1152.2]; rfl)).trans ((show F1120 (pg) (3 : Int) = F20 (pg) (3 : Int) from hM1124 _ _ ho47.1 (own_z ho47.1) (by rw [ho47.2]; rfl)).trans ((show F20 (pg) (3 : Int) = Fx (pg) (3 : Int) from hM23 _ _ ho4.1 (own_z ho4.1) (by rw [ho4.2]; rfl)).trans (show Fx (pg) (3 : Int) = F (pg) (3 : Int) from hMx _ _ o_pg (own_z o_pg) (by rw [t_pg]; rfl)))))) ?_
                    have y1265 : own m1202 (F (pg) (3 : Int)) ∧ tg1202 (F (pg) (3 : Int)) = 24 ∧ ((6 : Int) ≠ 0 → ln1202 (F (pg) (3 : Int)) = 6) := by have z := HC_n (c := 9) (q := 3) hC1206 ho1237.1 ho1237.2 (own_z ho1237.1) (by decide) rfl; rw [show F1203 (pg) ((3 : Nat) : Int) = F (pg) (3 : Int) from ((show F1203 (pg) (3 : Int) = F1166 (pg) (3 : Int) from hM1207 _ _ ho1193.1 (own_z ho1193.1) (by rw [ho1193.2]; rfl)).trans ((show F1166 (pg) (3 : Int) = F1120 (pg) (3 : Int) from hM1169 _ _ ho1152.1 (own_z ho1152.1) (by rw [ho1152.2]; rfl)).trans ((show F1120 (pg) (3 : Int) = F20 (pg) (3 : Int) from hM1124 _ _ ho47.1 (own_z ho47.1) (by rw [ho47.2]; rfl)).trans ((show F20 (pg) (3 : Int) = Fx (pg) (3 : Int) from hM23 _ _ ho4.1 (own_z ho4.1) (by rw [ho4.2]; rfl)).trans (show Fx (pg) (3 : Int) = F (pg) (3 : Int) from hMx _ _ o_pg (own_z o_pg) (by rw [t_pg]; rfl))))))] at z; exact ⟨z.1, z.2.1, z.2.2.1⟩
                    have ly1265 : ln1202 (F (pg) (3 : Int)) = 6 := y1265.2.2 (by decide)
                    refine jx_ld (pc_q := 194) (l_q := L1241) (st_q := [.int (i32 (r1121)), rv (F (pg) (3 : Int))]) rfl (jl_iloadn g1245) ?_
                    refine jx_ld (pc_q := 196) (l_q := L1241) (st_q := [rv (r1204), .int (i32 (r1121)), rv (F (pg) (3 : Int))]) rfl (jl_rv g1246) ?_
                    have b1266 := HC_l hC1206 y1265.1 y1265.2.1 (by decide)
                    refine cx_aas (pc_q := 197) (c := 7) (z := r1121) (y := r1204) rfl rfl y1265.1 (by rw [y1265.2.1]; decide) (by omega) (by omega) (by omega) (fun hz => (Or.inr ⟨b1208.1, b1208.2⟩).resolve_left hz) (by decide) (by rw [y1265.2.1]; rfl) ?_
                    obtain ⟨F1267, eF1267⟩ : ∃ q, q = uF F1203 (F (pg) (3 : Int)) (r1121) (r1204) := ⟨_, rfl⟩
                    rw [← eF1267]
                    have hC1268 : HC 0 m1202 tg1202 ln1202 F1267 := by rw [eF1267]; exact HC_pa hC1206 y1265.1 y1265.2.1 (by decide) (by omega) (Or.inr ⟨b1208.1, b1208.2⟩)
                    have hM1269 : Fq 0 [(7, 15), (9, 2), (9, 3), (10, 0), (10, 1), (10, 2), (10, 7), (10, 8), (10, 9), (11, 8), (11, 12), (11, 13), (11, 14), (11, 15), (11, 16), (11, 17), (11, 18), (24, -5), (26, -5)] m tg F F1267 := by rw [eF1267]; exact Fq_p hM1233 y1265.2.1 (fun w => (hX1238.2 _ w).1) (inL_a rfl (by omega) rfl)
                    have c1270 : NP m1202 tg1202 F1267 := by rw [eF1267]; exact NP_rt hC1206 c1221 y1265.2.1 (show F1203 (F (pg) (3 : Int)) (-1) = 0 by have z := HC_n (c := 9) (q := 3) hC1206 ho1237.1 ho1237.2 (own_z ho1237.1) (by decide) rfl; rw [show F1203 (pg) ((3 : Nat) : Int) = F (pg) (3 : Int) from ((show F1203 (pg) (3 : Int) = F1166 (pg) (3 : Int) from hM1207 _ _ ho1193.1 (own_z ho1193.1) (by rw [ho1193.2]; rfl)).trans ((show F1166 (pg) (3 : Int) = F1120 (pg) (3 : Int) from hM1169 _ _ ho1152.1 (own_z ho1152.1) (by rw [ho1152.2]; rfl)).trans ((show F1120 (pg) (3 : Int) = F20 (pg) (3 : Int) from hM1124 _ _ ho47.1 (own_z ho47.1) (by rw [ho47.2]; rfl)).trans ((show F20 (pg) (3 : Int) = Fx (pg) (3 : Int) from hM23 _ _ ho4.1 (own_z ho4.1) (by rw [ho4.2]; rfl)).trans (show Fx (pg) (3 : Int) = F (pg) (3 : Int) from hMx _ _ o_pg (own_z o_pg) (by rw [t_pg]; rfl))))))] at z; exact z.2.2.2 (by decide)) (by omega) (SN_i b1208.1 b1208.2 (by omega) (by omega) (by omega))
                    have c1271 : CR m1202 tg1202 F1267 (F pg (3 : Int)) ((cr + k) + 1) := by rw [eF1267]; exact CR_p c1240
                    refine jx_inc (pc_q := 200) (l_q := jSto1 L1241 1 (.int (i32 (k + (1))))) (x := k) rfl g1243 (by decide) rfl rfl ?_
                    obtain ⟨L1272, eL1272⟩ : ∃ q : jL, q = jSto1 L1241 1 (.int (i32 ((k + (1))))) := ⟨_, rfl⟩
                    rw [← eL1272]
                    have g1273 : jGet L1272 0 = some (rv (me)) := eL1272 ▸ jg_nr (by decide) g1242
                    have g1274 : jGet L1272 2 = some (.int (i32 (1))) := eL1272 ▸ jg_ne (by decide) g1244 rfl
                    have g1275 : jGet L1272 3 = some (.int (i32 (r1121))) := eL1272 ▸ jg_ne (by decide) g1245 rfl
                    have g1276 : jGet L1272 4 = some (rv (r1204)) := eL1272 ▸ jg_nr (by decide) g1246
                    have g1277 : jGet L1272 1 = some (.int (i32 ((k + (1))))) := eL1272 ▸ jg_eq
                    clear eL1272
                    refine jx_go (tg := 69) rfl rfl ?_
                    have q1278 : F1267 (sc) (8 : Int) = F1203 (sc) (8 : Int) := (show F1267 (sc) (8 : Int) = F1203 (sc) (8 : Int) from by rw [eF1267]; exact uF_a (fun w => by have q1 := ho1236.2; have q2 := y1265.2.1; rw [w, q2] at q1; exact absurd q1 (by decide)))
                    have q1279 : F1267 (sc) (15 : Int) = F1203 (sc) (15 : Int) := (show F1267 (sc) (15 : Int) = F1203 (sc) (15 : Int) from by rw [eF1267]; exact uF_a (fun w => by have q1 := ho1236.2; have q2 := y1265.2.1; rw [w, q2] at q1; exact absurd q1 (by decide)))
                    have q1280 : tz (F1267 (sc) (15 : Int)) = tz (F1203 (sc) (15 : Int)) := by rw [q1279]
                    have q1281 := tz_b (F1203 (sc) (15 : Int))
                    have q1282 : F1267 (sc) (14 : Int) = F1203 (sc) (14 : Int) := (show F1267 (sc) (14 : Int) = F1203 (sc) (14 : Int) from by rw [eF1267]; exact uF_a (fun w => by have q1 := ho1236.2; have q2 := y1265.2.1; rw [w, q2] at q1; exact absurd q1 (by decide)))
                    have q1283 : lz (F1267 (sc) (14 : Int)) = lz (F1203 (sc) (14 : Int)) := by rw [q1282]
                    have q1284 := lz_b (F1203 (sc) (14 : Int))
                    have q1285 : F1267 (pg) (9 : Int) = F1203 (pg) (9 : Int) := (show F1267 (pg) (9 : Int) = F1203 (pg) (9 : Int) from by rw [eF1267]; exact uF_a (fun w => by have q1 := ho1237.2; have q2 := y1265.2.1; rw [w, q2] at q1; exact absurd q1 (by decide)))
                    exact ih _ (by omega) L1272 m1202 tg1202 ln1202 F1267 ((k + (1))) rfl g1273 g1277 hX1238 hC1268 hM1269 (by omega) (by omega) (by omega) (by omega) (by omega) (by omega) (by omega) (by omega) (by omega) (by omega) c1270 c1239 (CR_m c1271 (by omega))
              · have _q := h1114
                have t1286 : tz (F20 (sc) (15 : Int)) = 1 := tz_p (by omega)
                refine jx_ld (pc_q := 151) (l_q := L1109) (st_q := [.int (i32 (1))]) rfl (jl_iloadn g1112) ?_
                refine jx_if_eq (pc_q := 154) (tg := 158) rfl rfl rfl (by decide) (by decide) (fun h1287 => ?_) (fun h1287 => ?_)
                · have _q := h1287
                  exact absurd h1287 (by omega)
                · have _q := h1287
                  refine jx_ld (pc_q := 155) (l_q := L1109) (st_q := [rv (me)]) rfl (jl_rvn g1110) ?_
                  have q1288 : F20 (sc) (7 : Int) = F (sc) (7 : Int) := ((show F20 (sc) (7 : Int) = Fx (sc) (7 : Int) from hM23 _ _ ho3.1 (own_z ho3.1) (by rw [ho3.2]; rfl)).trans (show Fx (sc) (7 : Int) = F (sc) (7 : Int) from hMx _ _ o_sc (own_z o_sc) (by rw [t_sc]; rfl)))
                  refine cx_vi (c := 8) (a := me) (st := []) (as := []) rfl rfl rfl ho45.1 ho45.2 (by decide) rfl ⟨rfl, rfl, (Nat.le_of_ble_eq_true rfl)⟩ rfl (k_LParser_form (dd := d) (R := R) (m := m19) (tg := tg19) (ln := ln19) (F := F20) (me := me) (hd := by omega) (hC := hC22) (o_me := ho45.1) (t_me := ho45.2) (sc := sc) (pg := pg) (o_sc := ho46.1) (t_sc := ho46.2) (e_sc := (((show F20 (me) (1 : Int) = Fx (me) (1 : Int) from hM23 _ _ ho2.1 (own_z ho2.1) (by rw [ho2.2]; rfl)).trans (show Fx (me) (1 : Int) = F (me) (1 : Int) from hMx _ _ o_me (own_z o_me) (by rw [t_me]; rfl))).trans e_sc)) (o_pg := ho47.1) (t_pg := ho47.2) (e_pg := (((show F20 (me) (0 : Int) = Fx (me) (0 : Int) from hM23 _ _ ho2.1 (own_z ho2.1) (by rw [ho2.2]; rfl)).trans (show Fx (me) (0 : Int) = F (me) (0 : Int) from hMx _ _ o_me (own_z o_me) (by rw [t_me]; rfl))).trans e_pg)) (p_0 := by omega) (c_NP := c31)) (fun o V_q hq => ?_)
                  obtain ⟨m1289, tg1289, ln1289, F1290, rfl, rfl, hx1291, hC1292, hM1293, p1294, c1295, c1296, -⟩ | ⟨m1297, tg1297, ln1297, F1297, x1297, rfl, rfl, hx1297, hC1297, hM1297, ho1297, ht1297, p1298, p1299, p1300, p1301, c1302, c1303, -⟩ := hq
                  rotate_left
                  ·
                    have c1304 : NM m m1297 tg1297 := NM_t c49 hx1297 c1303
                    have lm1305 := hx1297.1
                    refine Or.inr (Or.inr (Or.inr ⟨_, _, rfl, cx_exc (c := 15) ho1297 ht1297 (by decide), rfl, ?_⟩))
                    have q1306 : F20 (sc) (7 : Int) = F (sc) (7 : Int) := q1288
                    exact Or.inr ⟨m1297, tg1297, ln1297, F1297, x1297, rfl, rfl, Ex_t hX48 hx1297, hC1297, Fq_t (ln := ln) (ln1 := ln19) hM43 hX48 hM1297 (by decide) (Or.inl rfl), (And.intro ho1297 ht1297).1, (And.intro ho1297 ht1297).2, by omega, by omega, by omega, by omega, c1302, c1304, trivial⟩
                  exact p1294.elim
set_option maxRecDepth 20000 in
set_option maxHeartbeats 4000000 in
theorem k_LParser_readPlaced_at_2 {X : jX} {d : Nat} {R : Nat → jC} {m : Nat} {tg ln : Int → Int} {F : Int → Int → Int} {cr : Int} {me : Int} (hd : 202 ≤ d + 1) (hC : HC 0 m tg ln F) {sc pg : Int} (o_sc : own m sc) (t_sc : tg sc = 11) (e_sc : F me (1 : Int) = sc) (o_pg : own m pg) (t_pg : tg pg = 10) (e_pg : F me (0 : Int) = pg) (o_me : own m me) (t_me : tg me = 9) (p_0 : F sc (8 : Int) + 2 * tz (F sc (15 : Int)) ≤ F sc (7 : Int) + 1) (p_1 : F sc (8 : Int) + 2 * lz (F sc (14 : Int)) ≤ F sc (7 : Int) + 1) (c_NP : NP m tg F) (c_CR : CR m tg F (F pg (3 : Int)) (cr)) : ∀ (mm : Nat) (L : jL) (mx : Nat) (tgx lnx : Int → Int) (Fx : Int → Int → Int) (k : Int), (3000 - k).toNat = mm → jGet L 0 = some (rv (me)) → jGet L 1 = some (.int (i32 k)) → Ex m tg ln mx tgx lnx → HC 0 mx tgx lnx Fx → Fq 0 [(7, 15), (9, 2), (9, 3), (10, 0), (10, 1), (10, 2), (10, 7), (10, 8), (10, 9), (11, 8), (11, 12), (11, 13), (11, 14), (11, 15), (11, 16), (11, 17), (11, 18), (24, -5), (26, -5)] m tg F Fx → ((-2147483648 : Int) ≤ k ∧ k ≤ 2147483647) → (Fx sc (8 : Int) + 2 * tz (Fx sc (15 : Int)) ≤ F sc (7 : Int) + 1) → (Fx sc (8 : Int) + 2 * lz (Fx sc (14 : Int)) ≤ F sc (7 : Int) + 1) → (Fx pg (9 : Int) ≤ F pg (9 : Int) + ((mx : Int) - (m : Int))) → (F sc (8 : Int) ≤ Fx sc (8 : Int)) → (szD mx tgx lnx = szD m tg ln + 25 * ((mx : Int) - (m : Int))) → ((mx : Int) ≤ (m : Int) + (Fx sc (8 : Int) - F sc (8 : Int)) + (0)) → (0 ≤ k) → (k ≤ 3000) → (NP mx tgx Fx) → (NM m mx tgx) → (CR mx tgx Fx (F pg (3 : Int)) (cr)) → wj X d jm175 (2, L, [], cV R mx tgx lnx Fx) (fun o V_q => (∃ (m_q : Nat) (tg_q ln_q : Int → Int) (F_q : Int → Int → Int), V_q = cV R m_q tg_q ln_q F_q ∧ o = .inl none ∧ Ex m tg ln m_q tg_q ln_q ∧ HC 0 m_q tg_q ln_q F_q ∧ Fq 0 [(7, 15), (9, 2), (9, 3), (10, 0), (10, 1), (10, 2), (10, 7), (10, 8), (10, 9), (11, 8), (11, 12), (11, 13), (11, 14), (11, 15), (11, 16), (11, 17), (11, 18), (24, -5), (26, -5)] m tg F F_q ∧ (F_q sc (8 : Int) + 2 * tz (F_q sc (15 : Int)) ≤ F sc (7 : Int) + 1) ∧ (F_q sc (8 : Int) + 2 * lz (F_q sc (14 : Int)) ≤ F sc (7 : Int) + 1) ∧ (F sc (8 : Int) ≤ F_q sc (8 : Int)) ∧ (szD m_q tg_q ln_q = szD m tg ln + 25 * ((m_q : Int) - (m : Int))) ∧ ((m_q : Int) ≤ (m : Int) + (F_q sc (8 : Int) - F sc (8 : Int)) + (0)) ∧ (F_q pg (9 : Int) ≤ F pg (9 : Int) + ((m_q : Int) - (m : Int))) ∧ (NP m_q tg_q F_q) ∧ (NM m m_q tg_q) ∧ (CR m_q tg_q F_q (F pg (3 : Int)) (cr + (F_q sc (8 : Int) - F sc (8 : Int) - 3) / 4)) ∧ True) ∨ (∃ (m_q : Nat) (tg_q ln_q : Int → Int) (F_q : Int → Int → Int) (x : Nat), V_q = cV R m_q tg_q ln_q F_q ∧ o = .inr x ∧ Ex m tg ln m_q tg_q ln_q ∧ HC 0 m_q tg_q ln_q F_q ∧ Fq 0 [(7, 15), (9, 2), (9, 3), (10, 0), (10, 1), (10, 2), (10, 7), (10, 8), (10, 9), (11, 8), (11, 12), (11, 13), (11, 14), (11, 15), (11, 16), (11, 17), (11, 18), (24, -5), (26, -5)] m tg F F_q ∧ (own m_q (x : Int)) ∧ (tg_q (x : Int) = 16) ∧ (F_q pg (0 : Int) ≠ 0) ∧ (szD m_q tg_q ln_q = szD m tg ln + 25 * ((m_q : Int) - (m : Int))) ∧ ((m_q : Int) ≤ (m : Int) + (F_q sc (8 : Int) - F sc (8 : Int)) + (3)) ∧ (F_q sc (8 : Int) ≤ F sc (7 : Int) + 1) ∧ (NP m_q tg_q F_q) ∧ (NM m m_q tg_q) ∧ True)) := by
  intro mm
  induction mm using Nat.strongRecOn with
  | ind mm ih =>
    intro L mx tgx lnx Fx k hmm gL_0 gL_1 hXx hCx hMx rx_k iv_0 iv_1 iv_2 iv_3 iv_4 iv_5 iv_6 iv_7 cx_NP cx_NM cx_CR
    have hX0 : Ex m tg ln m tg ln := Ex_r
    have lm1307 := hXx.1
    have ho1308 : own mx (me) ∧ tgx (me) = 9 := Ex_o hXx ⟨o_me, t_me⟩
    have ho1309 : own mx (sc) ∧ tgx (sc) = 11 := Ex_o hXx ⟨o_sc, t_sc⟩
    have ho1310 : own mx (pg) ∧ tgx (pg) = 10 := Ex_o hXx ⟨o_pg, t_pg⟩
    have hX1311 := Ex_t hX0 hXx
    have tb0 := tz_b (F sc (15 : Int))
    have lb0 := lz_b (F sc (14 : Int))
    have tb1 := tz_b (Fx sc (15 : Int))
    have lb1 := lz_b (Fx sc (14 : Int))
    have ob0 : (0 : Int) ≤ F me (3 : Int) ∧ F me (3 : Int) ≤ 8 := HC_i (c := 8) (q := 3) hC o_me t_me (by decide) rfl
    have tp0 : F me (2 : Int) < 64 + (m : Int) := by
      have z : F me (2 : Int) = 0 ∨ (own m (F me (2 : Int)) ∧ tg (F me (2 : Int)) = 7) := HC_r (c := 8) (q := 2) hC o_me t_me (by decide) rfl
      rcases z with w | w
      · omega
      · exact w.1.2.1
    refine jx_ld (pc_q := 3) (l_q := L) (st_q := [.int (i32 (k))]) rfl (jl_iloadn gL_1) ?_
    refine jx_ar (pc_q := 6) (st_q := [.int (i32 (3000)), .int (i32 (k))]) rfl rfl rfl rfl ?_
    refine jx_icmp_ge (pc_q := 9) (tg := 41) rfl rfl rfl (by omega) (by omega) (by decide) (by decide) (fun h1312 => ?_) (fun h1312 => ?_)
    · have _q := h1312
      refine jx_ld (pc_q := 42) (l_q := L) (st_q := [rv (me)]) rfl (jl_rvn gL_0) ?_
      refine jx_ar (pc_q := 43) (st_q := [.int (i32 (0)), rv (me)]) rfl rfl rfl rfl ?_
      have q1313 := tz_b (Fx (sc) (15 : Int))
      have q1314 : Fx (sc) (7 : Int) = F (sc) (7 : Int) := (show Fx (sc) (7 : Int) = F (sc) (7 : Int) from hMx _ _ o_sc (own_z o_sc) (by rw [t_sc]; rfl))
      have q1315 := lz_b (Fx (sc) (14 : Int))
      refine cx_vi (c := 8) (a := me) (st := []) (as := [.int (i32 (0))]) rfl rfl rfl ho1308.1 ho1308.2 (by decide) rfl ⟨rfl, rfl, (Nat.le_of_ble_eq_true rfl)⟩ rfl (k_LParser_needLevel (dd := d) (R := R) (m := mx) (tg := tgx) (ln := lnx) (F := Fx) (me := me) (lv := 0) (hd := by omega) (hC := hCx) (o_me := ho1308.1) (t_me := ho1308.2) (h_lv := by omega) (sc := sc) (pg := pg) (o_sc := ho1309.1) (t_sc := ho1309.2) (e_sc := ((show Fx (me) (1 : Int) = F (me) (1 : Int) from hMx _ _ o_me (own_z o_me) (by rw [t_me]; rfl)).trans e_sc)) (o_pg := ho1310.1) (t_pg := ho1310.2) (e_pg := ((show Fx (me) (0 : Int) = F (me) (0 : Int) from hMx _ _ o_me (own_z o_me) (by rw [t_me]; rfl)).trans e_pg)) (p_0 := by omega) (p_1 := by omega) (p_2 := by omega) (c_NP := cx_NP)) (fun o V_q hq => ?_)
      obtain ⟨m1316, tg1316, ln1316, F1317, rfl, rfl, hx1318, hC1319, hM1320, p1321, p1322, p1323, p1324, p1325, p1326, p1327, p1328, p1329, c1330, c1331, -⟩ | ⟨m1332, tg1332, ln1332, F1332, x1332, rfl, rfl, hx1332, hC1332, hM1332, ho1332, ht1332, p1333, p1334, p1335, p1336, c1337, c1338, -⟩ := hq
      rotate_left
      ·
        have c1339 : NM m m1332 tg1332 := NM_t cx_NM hx1332 c1338
        have lm1340 := hx1332.1
        refine Or.inr (Or.inr (Or.inr ⟨_, _, rfl, cx_exc (c := 15) ho1332 ht1332 (by decide), rfl, ?_⟩))
        have q1341 : Fx (sc) (7 : Int) = F (sc) (7 : Int) := (show Fx (sc) (7 : Int) = F (sc) (7 : Int) from hMx _ _ o_sc (own_z o_sc) (by rw [t_sc]; rfl))
        exact Or.inr ⟨m1332, tg1332, ln1332, F1332, x1332, rfl, rfl, Ex_t hXx hx1332, hC1332, Fq_t (ln := ln) (ln1 := lnx) hMx hXx hM1332 (by decide) (Or.inl rfl), (And.intro ho1332 ht1332).1, (And.intro ho1332 ht1332).2, by omega, by omega, by omega, by omega, c1337, c1339, trivial⟩
      have hM1342 : Fq 0 [(7, 15), (9, 2), (9, 3), (10, 0), (10, 1), (10, 2), (10, 7), (10, 8), (10, 9), (11, 8), (11, 12), (11, 13), (11, 14), (11, 15), (11, 16), (11, 17), (11, 18), (24, -5), (26, -5)] m tg F F1317 := Fq_t (ln := ln) (ln1 := lnx) hMx hXx hM1320 (by decide) (Or.inl rfl)
      have lm1343 := hx1318.1
      have ho1344 : own m1316 (me) ∧ tg1316 (me) = 9 := Ex_o hx1318 ⟨ho1308.1, ho1308.2⟩
      have ho1345 : own m1316 (sc) ∧ tg1316 (sc) = 11 := Ex_o hx1318 ⟨ho1309.1, ho1309.2⟩
      have ho1346 : own m1316 (pg) ∧ tg1316 (pg) = 10 := Ex_o hx1318 ⟨ho1310.1, ho1310.2⟩
      have hX1347 := Ex_t hXx hx1318
      have c1348 : NM m m1316 tg1316 := NM_t cx_NM hx1318 c1331
      have c1349 : CR m1316 tg1316 F1317 (F pg (3 : Int)) (cr) := CR_x cx_CR hx1318 hM1320 rfl
      refine Or.inl ⟨rfl, ?_⟩
      refine jx_ld (pc_q := 47) (l_q := L) (st_q := [rv (me)]) rfl (jl_rvn gL_0) ?_
      refine jx_ar (pc_q := 49) (st_q := [.int (i32 (28)), rv (me)]) rfl rfl rfl rfl ?_
      have q1350 : F1317 (sc) (8 : Int) = Fx (sc) (8 : Int) := (show F1317 (sc) (8 : Int) = Fx (sc) (8 : Int) from hM1320 _ _ ho1309.1 (own_z ho1309.1) (by rw [ho1309.2]; rfl))
      have q1351 : F1317 (sc) (15 : Int) = Fx (sc) (15 : Int) := (show F1317 (sc) (15 : Int) = Fx (sc) (15 : Int) from hM1320 _ _ ho1309.1 (own_z ho1309.1) (by rw [ho1309.2]; rfl))
      have q1352 : tz (F1317 (sc) (15 : Int)) = tz (Fx (sc) (15 : Int)) := by rw [q1351]
      have q1353 := tz_b (Fx (sc) (15 : Int))
      have q1354 : F1317 (sc) (7 : Int) = F (sc) (7 : Int) := ((show F1317 (sc) (7 : Int) = Fx (sc) (7 : Int) from hM1320 _ _ ho1309.1 (own_z ho1309.1) (by rw [ho1309.2]; rfl)).trans (show Fx (sc) (7 : Int) = F (sc) (7 : Int) from hMx _ _ o_sc (own_z o_sc) (by rw [t_sc]; rfl)))
      have q1355 : F1317 (sc) (14 : Int) = Fx (sc) (14 : Int) := (show F1317 (sc) (14 : Int) = Fx (sc) (14 : Int) from hM1320 _ _ ho1309.1 (own_z ho1309.1) (by rw [ho1309.2]; rfl))
      have q1356 : lz (F1317 (sc) (14 : Int)) = lz (Fx (sc) (14 : Int)) := by rw [q1355]
      have q1357 := lz_b (Fx (sc) (14 : Int))
      have q1358 : F1317 (pg) (9 : Int) = Fx (pg) (9 : Int) := (show F1317 (pg) (9 : Int) = Fx (pg) (9 : Int) from hM1320 _ _ ho1310.1 (own_z ho1310.1) (by rw [ho1310.2]; rfl))
      refine cx_vi (c := 8) (a := me) (st := []) (as := [.int (i32 (28))]) rfl rfl rfl ho1344.1 ho1344.2 (by decide) rfl ⟨rfl, rfl, (Nat.le_of_ble_eq_true rfl)⟩ rfl (k_LParser_expect (dd := d) (R := R) (m := m1316) (tg := tg1316) (ln := ln1316) (F := F1317) (me := me) (tk := 28) (hd := by omega) (hC := hC1319) (o_me := ho1344.1) (t_me := ho1344.2) (h_tk := by omega) (sc := sc) (pg := pg) (o_sc := ho1345.1) (t_sc := ho1345.2) (e_sc := (((show F1317 (me) (1 : Int) = Fx (me) (1 : Int) from hM1320 _ _ ho1308.1 (own_z ho1308.1) (by rw [ho1308.2]; rfl)).trans (show Fx (me) (1 : Int) = F (me) (1 : Int) from hMx _ _ o_me (own_z o_me) (by rw [t_me]; rfl))).trans e_sc)) (o_pg := ho1346.1) (t_pg := ho1346.2) (e_pg := (((show F1317 (me) (0 : Int) = Fx (me) (0 : Int) from hM1320 _ _ ho1308.1 (own_z ho1308.1) (by rw [ho1308.2]; rfl)).trans (show Fx (me) (0 : Int) = F (me) (0 : Int) from hMx _ _ o_me (own_z o_me) (by rw [t_me]; rfl))).trans e_pg)) (p_0 := by omega) (p_1 := by omega) (p_2 := by omega) (p_3 := by omega) (c_NP := c1330)) (fun o V_q hq => ?_)
      obtain ⟨m1359, tg1359, ln1359, F1360, rfl, rfl, hx1361, hC1362, hM1363, p1364, p1365, p1366, p1367, p1368, p1369, p1370, c1371, c1372, -⟩ | ⟨m1373, tg1373, ln1373, F1373, x1373, rfl, rfl, hx1373, hC1373, hM1373, ho1373, ht1373, p1374, p1375, p1376, p1377, c1378, c1379, -⟩ := hq
      rotate_left
      ·
        have c1380 : NM m m1373 tg1373 := NM_t c1348 hx1373 c1379
        have lm1381 := hx1373.1
        refine Or.inr (Or.inr (Or.inr ⟨_, _, rfl, cx_exc (c := 15) ho1373 ht1373 (by decide), rfl, ?_⟩))
        have q1382 : F1317 (sc) (8 : Int) = Fx (sc) (8 : Int) := q1350
        have q1383 : F1317 (sc) (7 : Int) = F (sc) (7 : Int) := q1354
        exact Or.inr ⟨m1373, tg1373, ln1373, F1373, x1373, rfl, rfl, Ex_t hX1347 hx1373, hC1373, Fq_t (ln := ln) (ln1 := ln1316) hM1342 hX1347 hM1373 (by decide) (Or.inl rfl), (And.intro ho1373 ht1373).1, (And.intro ho1373 ht1373).2, by omega, by omega, by omega, by omega, c1378, c1380, trivial⟩
      have hM1384 : Fq 0 [(7, 15), (9, 2), (9, 3), (10, 0), (10, 1), (10, 2), (10, 7), (10, 8), (10, 9), (11, 8), (11, 12), (11, 13), (11, 14), (11, 15), (11, 16), (11, 17), (11, 18), (24, -5), (26, -5)] m tg F F1360 := Fq_t (ln := ln) (ln1 := ln1316) hM1342 hX1347 hM1363 (by decide) (Or.inl rfl)
      have lm1385 := hx1361.1
      have ho1386 : own m1359 (me) ∧ tg1359 (me) = 9 := Ex_o hx1361 ⟨ho1344.1, ho1344.2⟩
      have ho1387 : own m1359 (sc) ∧ tg1359 (sc) = 11 := Ex_o hx1361 ⟨ho1345.1, ho1345.2⟩
      have ho1388 : own m1359 (pg) ∧ tg1359 (pg) = 10 := Ex_o hx1361 ⟨ho1346.1, ho1346.2⟩
      have hX1389 := Ex_t hX1347 hx1361
      have c1390 : NM m m1359 tg1359 := NM_t c1348 hx1361 c1372
      have c1391 : CR m1359 tg1359 F1360 (F pg (3 : Int)) (cr) := CR_x c1349 hx1361 hM1363 rfl
      refine Or.inl ⟨rfl, ?_⟩
      refine jx_ld (pc_q := 53) (l_q := L) (st_q := [rv (me)]) rfl (jl_rvn gL_0) ?_
      refine jx_ar (pc_q := 55) (st_q := [.int (i32 (11)), rv (me)]) rfl rfl rfl rfl ?_
      have q1392 := tz_b (F1360 (sc) (15 : Int))
      have q1393 : F1360 (sc) (7 : Int) = F (sc) (7 : Int) := ((show F1360 (sc) (7 : Int) = F1317 (sc) (7 : Int) from hM1363 _ _ ho1345.1 (own_z ho1345.1) (by rw [ho1345.2]; rfl)).trans q1354)
      have q1394 := lz_b (F1360 (sc) (14 : Int))
      have q1395 : F1360 (pg) (9 : Int) = Fx (pg) (9 : Int) := ((show F1360 (pg) (9 : Int) = F1317 (pg) (9 : Int) from hM1363 _ _ ho1346.1 (own_z ho1346.1) (by rw [ho1346.2]; rfl)).trans q1358)
      refine cx_vi (c := 8) (a := me) (st := []) (as := [.int (i32 (11))]) rfl rfl rfl ho1386.1 ho1386.2 (by decide) rfl ⟨rfl, rfl, (Nat.le_of_ble_eq_true rfl)⟩ rfl (k_LParser_expect (dd := d) (R := R) (m := m1359) (tg := tg1359) (ln := ln1359) (F := F1360) (me := me) (tk := 11) (hd := by omega) (hC := hC1362) (o_me := ho1386.1) (t_me := ho1386.2) (h_tk := by omega) (sc := sc) (pg := pg) (o_sc := ho1387.1) (t_sc := ho1387.2) (e_sc := (((show F1360 (me) (1 : Int) = F1317 (me) (1 : Int) from hM1363 _ _ ho1344.1 (own_z ho1344.1) (by rw [ho1344.2]; rfl)).trans ((show F1317 (me) (1 : Int) = Fx (me) (1 : Int) from hM1320 _ _ ho1308.1 (own_z ho1308.1) (by rw [ho1308.2]; rfl)).trans (show Fx (me) (1 : Int) = F (me) (1 : Int) from hMx _ _ o_me (own_z o_me) (by rw [t_me]; rfl)))).trans e_sc)) (o_pg := ho1388.1) (t_pg := ho1388.2) (e_pg := (((show F1360 (me) (0 : Int) = F1317 (me) (0 : Int) from hM1363 _ _ ho1344.1 (own_z ho1344.1) (by rw [ho1344.2]; rfl)).trans ((show F1317 (me) (0 : Int) = Fx (me) (0 : Int) from hM1320 _ _ ho1308.1 (own_z ho1308.1) (by rw [ho1308.2]; rfl)).trans (show Fx (me) (0 : Int) = F (me) (0 : Int) from hMx _ _ o_me (own_z o_me) (by rw [t_me]; rfl)))).trans e_pg)) (p_0 := by omega) (p_1 := by omega) (p_2 := by omega) (p_3 := by omega) (c_NP := c1371)) (fun o V_q hq => ?_)
      obtain ⟨m1396, tg1396, ln1396, F1397, rfl, rfl, hx1398, hC1399, hM1400, p1401, p1402, p1403, p1404, p1405, p1406, p1407, c1408, c1409, -⟩ | ⟨m1410, tg1410, ln1410, F1410, x1410, rfl, rfl, hx1410, hC1410, hM1410, ho1410, ht1410, p1411, p1412, p1413, p1414, c1415, c1416, -⟩ := hq
      rotate_left
      ·
        have c1417 : NM m m1410 tg1410 := NM_t c1390 hx1410 c1416
        have lm1418 := hx1410.1
        refine Or.inr (Or.inr (Or.inr ⟨_, _, rfl, cx_exc (c := 15) ho1410 ht1410 (by decide), rfl, ?_⟩))
        have q1419 : F1360 (sc) (7 : Int) = F (sc) (7 : Int) := q1393
        exact Or.inr ⟨m1410, tg1410, ln1410, F1410, x1410, rfl, rfl, Ex_t hX1389 hx1410, hC1410, Fq_t (ln := ln) (ln1 := ln1359) hM1384 hX1389 hM1410 (by decide) (Or.inl rfl), (And.intro ho1410 ht1410).1, (And.intro ho1410 ht1410).2, by omega, by omega, by omega, by omega, c1415, c1417, trivial⟩
      have hM1420 : Fq 0 [(7, 15), (9, 2), (9, 3), (10, 0), (10, 1), (10, 2), (10, 7), (10, 8), (10, 9), (11, 8), (11, 12), (11, 13), (11, 14), (11, 15), (11, 16), (11, 17), (11, 18), (24, -5), (26, -5)] m tg F F1397 := Fq_t (ln := ln) (ln1 := ln1359) hM1384 hX1389 hM1400 (by decide) (Or.inl rfl)
      have lm1421 := hx1398.1
      have ho1422 : own m1396 (me) ∧ tg1396 (me) = 9 := Ex_o hx1398 ⟨ho1386.1, ho1386.2⟩
      have ho1423 : own m1396 (sc) ∧ tg1396 (sc) = 11 := Ex_o hx1398 ⟨ho1387.1, ho1387.2⟩
      have ho1424 : own m1396 (pg) ∧ tg1396 (pg) = 10 := Ex_o hx1398 ⟨ho1388.1, ho1388.2⟩
      have hX1425 := Ex_t hX1389 hx1398
      have c1426 : NM m m1396 tg1396 := NM_t c1390 hx1398 c1409
      have c1427 : CR m1396 tg1396 F1397 (F pg (3 : Int)) (cr) := CR_x c1391 hx1398 hM1400 rfl
      refine Or.inl ⟨rfl, ?_⟩
      refine jx_ld (pc_q := 59) (l_q := L) (st_q := [rv (me)]) rfl (jl_rvn gL_0) ?_
      have q1428 := tz_b (F1397 (sc) (15 : Int))
      have q1429 : F1397 (sc) (7 : Int) = F (sc) (7 : Int) := ((show F1397 (sc) (7 : Int) = F1360 (sc) (7 : Int) from hM1400 _ _ ho1387.1 (own_z ho1387.1) (by rw [ho1387.2]; rfl)).trans q1393)
      have q1430 := lz_b (F1397 (sc) (14 : Int))
      have q1431 : F1397 (pg) (9 : Int) = Fx (pg) (9 : Int) := ((show F1397 (pg) (9 : Int) = F1360 (pg) (9 : Int) from hM1400 _ _ ho1388.1 (own_z ho1388.1) (by rw [ho1388.2]; rfl)).trans q1395)
      refine cx_vi (c := 8) (a := me) (st := []) (as := []) rfl rfl rfl ho1422.1 ho1422.2 (by decide) rfl ⟨rfl, rfl, (Nat.le_of_ble_eq_true rfl)⟩ rfl (k_LParser_endLine (dd := d) (R := R) (m := m1396) (tg := tg1396) (ln := ln1396) (F := F1397) (me := me) (hd := by omega) (hC := hC1399) (o_me := ho1422.1) (t_me := ho1422.2) (sc := sc) (pg := pg) (o_sc := ho1423.1) (t_sc := ho1423.2) (e_sc := (((show F1397 (me) (1 : Int) = F1360 (me) (1 : Int) from hM1400 _ _ ho1386.1 (own_z ho1386.1) (by rw [ho1386.2]; rfl)).trans ((show F1360 (me) (1 : Int) = F1317 (me) (1 : Int) from hM1363 _ _ ho1344.1 (own_z ho1344.1) (by rw [ho1344.2]; rfl)).trans ((show F1317 (me) (1 : Int) = Fx (me) (1 : Int) from hM1320 _ _ ho1308.1 (own_z ho1308.1) (by rw [ho1308.2]; rfl)).trans (show Fx (me) (1 : Int) = F (me) (1 : Int) from hMx _ _ o_me (own_z o_me) (by rw [t_me]; rfl))))).trans e_sc)) (o_pg := ho1424.1) (t_pg := ho1424.2) (e_pg := (((show F1397 (me) (0 : Int) = F1360 (me) (0 : Int) from hM1400 _ _ ho1386.1 (own_z ho1386.1) (by rw [ho1386.2]; rfl)).trans ((show F1360 (me) (0 : Int) = F1317 (me) (0 : Int) from hM1363 _ _ ho1344.1 (own_z ho1344.1) (by rw [ho1344.2]; rfl)).trans ((show F1317 (me) (0 : Int) = Fx (me) (0 : Int) from hM1320 _ _ ho1308.1 (own_z ho1308.1) (by rw [ho1308.2]; rfl)).trans (show Fx (me) (0 : Int) = F (me) (0 : Int) from hMx _ _ o_me (own_z o_me) (by rw [t_me]; rfl))))).trans e_pg)) (p_0 := by omega) (p_1 := by omega) (p_2 := by omega) (c_NP := c1408)) (fun o V_q hq => ?_)
      obtain ⟨m1432, tg1432, ln1432, F1433, rfl, rfl, hx1434, hC1435, hM1436, p1437, p1438, p1439, p1440, p1441, p1442, p1443, c1444, c1445, -⟩ | ⟨m1446, tg1446, ln1446, F1446, x1446, rfl, rfl, hx1446, hC1446, hM1446, ho1446, ht1446, p1447, p1448, p1449, p1450, c1451, c1452, -⟩ := hq
      rotate_left
      ·
        have c1453 : NM m m1446 tg1446 := NM_t c1426 hx1446 c1452
        have lm1454 := hx1446.1
        refine Or.inr (Or.inr (Or.inr ⟨_, _, rfl, cx_exc (c := 15) ho1446 ht1446 (by decide), rfl, ?_⟩))
        have q1455 : F1397 (sc) (7 : Int) = F (sc) (7 : Int) := q1429
        exact Or.inr ⟨m1446, tg1446, ln1446, F1446, x1446, rfl, rfl, Ex_t hX1425 hx1446, hC1446, Fq_t (ln := ln) (ln1 := ln1396) hM1420 hX1425 hM1446 (by decide) (Or.inl rfl), (And.intro ho1446 ht1446).1, (And.intro ho1446 ht1446).2, by omega, by omega, by omega, by omega, c1451, c1453, trivial⟩
      have hM1456 : Fq 0 [(7, 15), (9, 2), (9, 3), (10, 0), (10, 1), (10, 2), (10, 7), (10, 8), (10, 9), (11, 8), (11, 12), (11, 13), (11, 14), (11, 15), (11, 16), (11, 17), (11, 18), (24, -5), (26, -5)] m tg F F1433 := Fq_t (ln := ln) (ln1 := ln1396) hM1420 hX1425 hM1436 (by decide) (Or.inl rfl)
      have lm1457 := hx1434.1
      have ho1458 : own m1432 (me) ∧ tg1432 (me) = 9 := Ex_o hx1434 ⟨ho1422.1, ho1422.2⟩
      have ho1459 : own m1432 (sc) ∧ tg1432 (sc) = 11 := Ex_o hx1434 ⟨ho1423.1, ho1423.2⟩
      have ho1460 : own m1432 (pg) ∧ tg1432 (pg) = 10 := Ex_o hx1434 ⟨ho1424.1, ho1424.2⟩
      have hX1461 := Ex_t hX1425 hx1434
      have c1462 : NM m m1432 tg1432 := NM_t c1426 hx1434 c1445
      have c1463 : CR m1432 tg1432 F1433 (F pg (3 : Int)) (cr) := CR_x c1427 hx1434 hM1436 rfl
      refine Or.inl ⟨rfl, ?_⟩
      refine jx_ld (pc_q := 63) (l_q := L) (st_q := [rv (me)]) rfl (jl_rvn gL_0) ?_
      refine jx_ar (pc_q := 64) (st_q := [.int (i32 (1)), rv (me)]) rfl rfl rfl rfl ?_
      have q1464 := tz_b (F1433 (sc) (15 : Int))
      have q1465 : F1433 (sc) (7 : Int) = F (sc) (7 : Int) := ((show F1433 (sc) (7 : Int) = F1397 (sc) (7 : Int) from hM1436 _ _ ho1423.1 (own_z ho1423.1) (by rw [ho1423.2]; rfl)).trans q1429)
      have q1466 := lz_b (F1433 (sc) (14 : Int))
      have q1467 : F1433 (pg) (9 : Int) = Fx (pg) (9 : Int) := ((show F1433 (pg) (9 : Int) = F1397 (pg) (9 : Int) from hM1436 _ _ ho1424.1 (own_z ho1424.1) (by rw [ho1424.2]; rfl)).trans q1431)
      refine cx_vi (c := 8) (a := me) (st := []) (as := [.int (i32 (1))]) rfl rfl rfl ho1458.1 ho1458.2 (by decide) rfl ⟨rfl, rfl, (Nat.le_of_ble_eq_true rfl)⟩ rfl (k_LParser_needLevel (dd := d) (R := R) (m := m1432) (tg := tg1432) (ln := ln1432) (F := F1433) (me := me) (lv := 1) (hd := by omega) (hC := hC1435) (o_me := ho1458.1) (t_me := ho1458.2) (h_lv := by omega) (sc := sc) (pg := pg) (o_sc := ho1459.1) (t_sc := ho1459.2) (e_sc := (((show F1433 (me) (1 : Int) = F1397 (me) (1 : Int) from hM1436 _ _ ho1422.1 (own_z ho1422.1) (by rw [ho1422.2]; rfl)).trans ((show F1397 (me) (1 : Int) = F1360 (me) (1 : Int) from hM1400 _ _ ho1386.1 (own_z ho1386.1) (by rw [ho1386.2]; rfl)).trans ((show F1360 (me) (1 : Int) = F1317 (me) (1 : Int) from hM1363 _ _ ho1344.1 (own_z ho1344.1) (by rw [ho1344.2]; rfl)).trans ((show F1317 (me) (1 : Int) = Fx (me) (1 : Int) from hM1320 _ _ ho1308.1 (own_z ho1308.1) (by rw [ho1308.2]; rfl)).trans (show Fx (me) (1 : Int) = F (me) (1 : Int) from hMx _ _ o_me (own_z o_me) (by rw [t_me]; rfl)))))).trans e_sc)) (o_pg := ho1460.1) (t_pg := ho1460.2) (e_pg := (((show F1433 (me) (0 : Int) = F1397 (me) (0 : Int) from hM1436 _ _ ho1422.1 (own_z ho1422.1) (by rw [ho1422.2]; rfl)).trans ((show F1397 (me) (0 : Int) = F1360 (me) (0 : Int) from hM1400 _ _ ho1386.1 (own_z ho1386.1) (by rw [ho1386.2]; rfl)).trans ((show F1360 (me) (0 : Int) = F1317 (me) (0 : Int) from hM1363 _ _ ho1344.1 (own_z ho1344.1) (by rw [ho1344.2]; rfl)).trans ((show F1317 (me) (0 : Int) = Fx (me) (0 : Int) from hM1320 _ _ ho1308.1 (own_z ho1308.1) (by rw [ho1308.2]; rfl)).trans (show Fx (me) (0 : Int) = F (me) (0 : Int) from hMx _ _ o_me (own_z o_me) (by rw [t_me]; rfl)))))).trans e_pg)) (p_0 := by omega) (p_1 := by omega) (p_2 := by omega) (c_NP := c1444)) (fun o V_q hq => ?_)
      obtain ⟨m1468, tg1468, ln1468, F1469, rfl, rfl, hx1470, hC1471, hM1472, p1473, p1474, p1475, p1476, p1477, p1478, p1479, p1480, p1481, c1482, c1483, -⟩ | ⟨m1484, tg1484, ln1484, F1484, x1484, rfl, rfl, hx1484, hC1484, hM1484, ho1484, ht1484, p1485, p1486, p1487, p1488, c1489, c1490, -⟩ := hq
      rotate_left
      ·
        have c1491 : NM m m1484 tg1484 := NM_t c1462 hx1484 c1490
        have lm1492 := hx1484.1
        refine Or.inr (Or.inr (Or.inr ⟨_, _, rfl, cx_exc (c := 15) ho1484 ht1484 (by decide), rfl, ?_⟩))
        have q1493 : F1433 (sc) (7 : Int) = F (sc) (7 : Int) := q1465
        exact Or.inr ⟨m1484, tg1484, ln1484, F1484, x1484, rfl, rfl, Ex_t hX1461 hx1484, hC1484, Fq_t (ln := ln) (ln1 := ln1432) hM1456 hX1461 hM1484 (by decide) (Or.inl rfl), (And.intro ho1484 ht1484).1, (And.intro ho1484 ht1484).2, by omega, by omega, by omega, by omega, c1489, c1491, trivial⟩
      have hM1494 : Fq 0 [(7, 15), (9, 2), (9, 3), (10, 0), (10, 1), (10, 2), (10, 7), (10, 8), (10, 9), (11, 8), (11, 12), (11, 13), (11, 14), (11, 15), (11, 16), (11, 17), (11, 18), (24, -5), (26, -5)] m tg F F1469 := Fq_t (ln := ln) (ln1 := ln1432) hM1456 hX1461 hM1472 (by decide) (Or.inl rfl)
      have lm1495 := hx1470.1
      have ho1496 : own m1468 (me) ∧ tg1468 (me) = 9 := Ex_o hx1470 ⟨ho1458.1, ho1458.2⟩
      have ho1497 : own m1468 (sc) ∧ tg1468 (sc) = 11 := Ex_o hx1470 ⟨ho1459.1, ho1459.2⟩
      have ho1498 : own m1468 (pg) ∧ tg1468 (pg) = 10 := Ex_o hx1470 ⟨ho1460.1, ho1460.2⟩
      have hX1499 := Ex_t hX1461 hx1470
      have c1500 : NM m m1468 tg1468 := NM_t c1462 hx1470 c1483
      have c1501 : CR m1468 tg1468 F1469 (F pg (3 : Int)) (cr) := CR_x c1463 hx1470 hM1472 rfl
      refine Or.inl ⟨rfl, ?_⟩
      refine jx_ar (pc_q := 68) (st_q := [.int (i32 (0))]) rfl rfl rfl rfl ?_
      refine jx_ld (pc_q := 69) (l_q := jSto1 L 1 (.int (i32 (0)))) (st_q := []) rfl rfl ?_
      obtain ⟨L1502, eL1502⟩ : ∃ q : jL, q = jSto1 L 1 (.int (i32 (0))) := ⟨_, rfl⟩
      rw [← eL1502]
      have g1503 : jGet L1502 0 = some (rv (me)) := eL1502 ▸ jg_nr (by decide) gL_0
      have g1504 : jGet L1502 1 = some (.int (i32 (0))) := eL1502 ▸ jg_eq
      clear eL1502
      have q1505 : F1469 (sc) (8 : Int) = F1433 (sc) (8 : Int) := (show F1469 (sc) (8 : Int) = F1433 (sc) (8 : Int) from hM1472 _ _ ho1459.1 (own_z ho1459.1) (by rw [ho1459.2]; rfl))
      have q1506 : F1469 (sc) (15 : Int) = F1433 (sc) (15 : Int) := (show F1469 (sc) (15 : Int) = F1433 (sc) (15 : Int) from hM1472 _ _ ho1459.1 (own_z ho1459.1) (by rw [ho1459.2]; rfl))
      have q1507 : tz (F1469 (sc) (15 : Int)) = tz (F1433 (sc) (15 : Int)) := by rw [q1506]
      have q1508 := tz_b (F1433 (sc) (15 : Int))
      have q1509 : F1469 (sc) (14 : Int) = F1433 (sc) (14 : Int) := (show F1469 (sc) (14 : Int) = F1433 (sc) (14 : Int) from hM1472 _ _ ho1459.1 (own_z ho1459.1) (by rw [ho1459.2]; rfl))
      have q1510 : lz (F1469 (sc) (14 : Int)) = lz (F1433 (sc) (14 : Int)) := by rw [q1509]
      have q1511 := lz_b (F1433 (sc) (14 : Int))
      have q1512 : F1469 (pg) (9 : Int) = Fx (pg) (9 : Int) := ((show F1469 (pg) (9 : Int) = F1433 (pg) (9 : Int) from hM1472 _ _ ho1460.1 (own_z ho1460.1) (by rw [ho1460.2]; rfl)).trans q1467)
      exact k_LParser_readPlaced_at_69 (X := X) (d := d) (R := R) (m := m) (tg := tg) (ln := ln) (F := F) (cr := cr) (me := me) (hd := hd) (hC := hC) (sc := sc) (pg := pg) (o_sc := o_sc) (t_sc := t_sc) (e_sc := e_sc) (o_pg := o_pg) (t_pg := t_pg) (e_pg := e_pg) (o_me := o_me) (t_me := t_me) (p_0 := p_0) (p_1 := p_1) (c_NP := c_NP) (c_CR := c_CR) _ L1502 m1468 tg1468 ln1468 F1469 (0) rfl g1503 g1504 hX1499 hC1471 hM1494 (by omega) (by omega) (by omega) (by omega) (by omega) (by omega) (by omega) (by omega) (by omega) (by omega) c1482 c1500 (CR_m c1501 (by omega))
    · have _q := h1312
      refine jx_ld (pc_q := 10) (l_q := L) (st_q := [rv (me)]) rfl (jl_rvn gL_0) ?_
      refine cx_gr (pc_q := 13) (c := 8) (q := 1) (v := sc) rfl rfl (by decide) (by decide) rfl rfl ho1308.1 ho1308.2 ((show Fx (me) (1 : Int) = F (me) (1 : Int) from hMx _ _ o_me (own_z o_me) (by rw [t_me]; rfl)).trans e_sc) ?_
      refine cx_gi (pc_q := 16) (c := 10) (q := 14) (v := Fx (sc) (14 : Int)) rfl rfl (by decide) (by decide) (Or.inl rfl) rfl ho1309.1 ho1309.2 rfl ?_
      have b1513 : (-2 : Int) ≤ Fx (sc) (14 : Int) ∧ Fx (sc) (14 : Int) ≤ 15 := by have z := HC_i (c := 10) (q := 14) hCx ho1309.1 ho1309.2 (by decide) rfl; rw [show Fx (sc) ((14 : Nat) : Int) = Fx (sc) (14 : Int) from rfl] at z; exact z
      refine jx_if_ne (pc_q := 19) (tg := 41) rfl rfl rfl (by omega) (by omega) (fun h1514 => ?_) (fun h1514 => ?_)
      · have _q := h1514
        refine jx_ld (pc_q := 42) (l_q := L) (st_q := [rv (me)]) rfl (jl_rvn gL_0) ?_
        refine jx_ar (pc_q := 43) (st_q := [.int (i32 (0)), rv (me)]) rfl rfl rfl rfl ?_
        have q1515 := tz_b (Fx (sc) (15 : Int))
        have q1516 : Fx (sc) (7 : Int) = F (sc) (7 : Int) := (show Fx (sc) (7 : Int) = F (sc) (7 : Int) from hMx _ _ o_sc (own_z o_sc) (by rw [t_sc]; rfl))
        have q1517 := lz_b (Fx (sc) (14 : Int))
        refine cx_vi (c := 8) (a := me) (st := []) (as := [.int (i32 (0))]) rfl rfl rfl ho1308.1 ho1308.2 (by decide) rfl ⟨rfl, rfl, (Nat.le_of_ble_eq_true rfl)⟩ rfl (k_LParser_needLevel (dd := d) (R := R) (m := mx) (tg := tgx) (ln := lnx) (F := Fx) (me := me) (lv := 0) (hd := by omega) (hC := hCx) (o_me := ho1308.1) (t_me := ho1308.2) (h_lv := by omega) (sc := sc) (pg := pg) (o_sc := ho1309.1) (t_sc := ho1309.2) (e_sc := ((show Fx (me) (1 : Int) = F (me) (1 : Int) from hMx _ _ o_me (own_z o_me) (by rw [t_me]; rfl)).trans e_sc)) (o_pg := ho1310.1) (t_pg := ho1310.2) (e_pg := ((show Fx (me) (0 : Int) = F (me) (0 : Int) from hMx _ _ o_me (own_z o_me) (by rw [t_me]; rfl)).trans e_pg)) (p_0 := by omega) (p_1 := by omega) (p_2 := by omega) (c_NP := cx_NP)) (fun o V_q hq => ?_)
        obtain ⟨m1518, tg1518, ln1518, F1519, rfl, rfl, hx1520, hC1521, hM1522, p1523, p1524, p1525, p1526, p1527, p1528, p1529, p1530, p1531, c1532, c1533, -⟩ | ⟨m1534, tg1534, ln1534, F1534, x1534, rfl, rfl, hx1534, hC1534, hM1534, ho1534, ht1534, p1535, p1536, p1537, p1538, c1539, c1540, -⟩ := hq
        rotate_left
        ·
          have c1541 : NM m m1534 tg1534 := NM_t cx_NM hx1534 c1540
          have lm1542 := hx1534.1
          refine Or.inr (Or.inr (Or.inr ⟨_, _, rfl, cx_exc (c := 15) ho1534 ht1534 (by decide), rfl, ?_⟩))
          have q1543 : Fx (sc) (7 : Int) = F (sc) (7 : Int) := (show Fx (sc) (7 : Int) = F (sc) (7 : Int) from hMx _ _ o_sc (own_z o_sc) (by rw [t_sc]; rfl))
          exact Or.inr ⟨m1534, tg1534, ln1534, F1534, x1534, rfl, rfl, Ex_t hXx hx1534, hC1534, Fq_t (ln := ln) (ln1 := lnx) hMx hXx hM1534 (by decide) (Or.inl rfl), (And.intro ho1534 ht1534).1, (And.intro ho1534 ht1534).2, by omega, by omega, by omega, by omega, c1539, c1541, trivial⟩
        have hM1544 : Fq 0 [(7, 15), (9, 2), (9, 3), (10, 0), (10, 1), (10, 2), (10, 7), (10, 8), (10, 9), (11, 8), (11, 12), (11, 13), (11, 14), (11, 15), (11, 16), (11, 17), (11, 18), (24, -5), (26, -5)] m tg F F1519 := Fq_t (ln := ln) (ln1 := lnx) hMx hXx hM1522 (by decide) (Or.inl rfl)
        have lm1545 := hx1520.1
        have ho1546 : own m1518 (me) ∧ tg1518 (me) = 9 := Ex_o hx1520 ⟨ho1308.1, ho1308.2⟩
        have ho1547 : own m1518 (sc) ∧ tg1518 (sc) = 11 := Ex_o hx1520 ⟨ho1309.1, ho1309.2⟩
        have ho1548 : own m1518 (pg) ∧ tg1518 (pg) = 10 := Ex_o hx1520 ⟨ho1310.1, ho1310.2⟩
        have hX1549 := Ex_t hXx hx1520
        have c1550 : NM m m1518 tg1518 := NM_t cx_NM hx1520 c1533
        have c1551 : CR m1518 tg1518 F1519 (F pg (3 : Int)) (cr) := CR_x cx_CR hx1520 hM1522 rfl
        refine Or.inl ⟨rfl, ?_⟩
        refine jx_ld (pc_q := 47) (l_q := L) (st_q := [rv (me)]) rfl (jl_rvn gL_0) ?_
        refine jx_ar (pc_q := 49) (st_q := [.int (i32 (28)), rv (me)]) rfl rfl rfl rfl ?_
        have q1552 : F1519 (sc) (8 : Int) = Fx (sc) (8 : Int) := (show F1519 (sc) (8 : Int) = Fx (sc) (8 : Int) from hM1522 _ _ ho1309.1 (own_z ho1309.1) (by rw [ho1309.2]; rfl))
        have q1553 : F1519 (sc) (15 : Int) = Fx (sc) (15 : Int) := (show F1519 (sc) (15 : Int) = Fx (sc) (15 : Int) from hM1522 _ _ ho1309.1 (own_z ho1309.1) (by rw [ho1309.2]; rfl))
        have q1554 : tz (F1519 (sc) (15 : Int)) = tz (Fx (sc) (15 : Int)) := by rw [q1553]
        have q1555 := tz_b (Fx (sc) (15 : Int))
        have q1556 : F1519 (sc) (7 : Int) = F (sc) (7 : Int) := ((show F1519 (sc) (7 : Int) = Fx (sc) (7 : Int) from hM1522 _ _ ho1309.1 (own_z ho1309.1) (by rw [ho1309.2]; rfl)).trans (show Fx (sc) (7 : Int) = F (sc) (7 : Int) from hMx _ _ o_sc (own_z o_sc) (by rw [t_sc]; rfl)))
        have q1557 : F1519 (sc) (14 : Int) = Fx (sc) (14 : Int) := (show F1519 (sc) (14 : Int) = Fx (sc) (14 : Int) from hM1522 _ _ ho1309.1 (own_z ho1309.1) (by rw [ho1309.2]; rfl))
        have q1558 : lz (F1519 (sc) (14 : Int)) = lz (Fx (sc) (14 : Int)) := by rw [q1557]
        have q1559 := lz_b (Fx (sc) (14 : Int))
        have q1560 : F1519 (pg) (9 : Int) = Fx (pg) (9 : Int) := (show F1519 (pg) (9 : Int) = Fx (pg) (9 : Int) from hM1522 _ _ ho1310.1 (own_z ho1310.1) (by rw [ho1310.2]; rfl))
        refine cx_vi (c := 8) (a := me) (st := []) (as := [.int (i32 (28))]) rfl rfl rfl ho1546.1 ho1546.2 (by decide) rfl ⟨rfl, rfl, (Nat.le_of_ble_eq_true rfl)⟩ rfl (k_LParser_expect (dd := d) (R := R) (m := m1518) (tg := tg1518) (ln := ln1518) (F := F1519) (me := me) (tk := 28) (hd := by omega) (hC := hC1521) (o_me := ho1546.1) (t_me := ho1546.2) (h_tk := by omega) (sc := sc) (pg := pg) (o_sc := ho1547.1) (t_sc := ho1547.2) (e_sc := (((show F1519 (me) (1 : Int) = Fx (me) (1 : Int) from hM1522 _ _ ho1308.1 (own_z ho1308.1) (by rw [ho1308.2]; rfl)).trans (show Fx (me) (1 : Int) = F (me) (1 : Int) from hMx _ _ o_me (own_z o_me) (by rw [t_me]; rfl))).trans e_sc)) (o_pg := ho1548.1) (t_pg := ho1548.2) (e_pg := (((show F1519 (me) (0 : Int) = Fx (me) (0 : Int) from hM1522 _ _ ho1308.1 (own_z ho1308.1) (by rw [ho1308.2]; rfl)).trans (show Fx (me) (0 : Int) = F (me) (0 : Int) from hMx _ _ o_me (own_z o_me) (by rw [t_me]; rfl))).trans e_pg)) (p_0 := by omega) (p_1 := by omega) (p_2 := by omega) (p_3 := by omega) (c_NP := c1532)) (fun o V_q hq => ?_)
        obtain ⟨m1561, tg1561, ln1561, F1562, rfl, rfl, hx1563, hC1564, hM1565, p1566, p1567, p1568, p1569, p1570, p1571, p1572, c1573, c1574, -⟩ | ⟨m1575, tg1575, ln1575, F1575, x1575, rfl, rfl, hx1575, hC1575, hM1575, ho1575, ht1575, p1576, p1577, p1578, p1579, c1580, c1581, -⟩ := hq
        rotate_left
        ·
          have c1582 : NM m m1575 tg1575 := NM_t c1550 hx1575 c1581
          have lm1583 := hx1575.1
          refine Or.inr (Or.inr (Or.inr ⟨_, _, rfl, cx_exc (c := 15) ho1575 ht1575 (by decide), rfl, ?_⟩))
          have q1584 : F1519 (sc) (8 : Int) = Fx (sc) (8 : Int) := q1552
          have q1585 : F1519 (sc) (7 : Int) = F (sc) (7 : Int) := q1556
          exact Or.inr ⟨m1575, tg1575, ln1575, F1575, x1575, rfl, rfl, Ex_t hX1549 hx1575, hC1575, Fq_t (ln := ln) (ln1 := ln1518) hM1544 hX1549 hM1575 (by decide) (Or.inl rfl), (And.intro ho1575 ht1575).1, (And.intro ho1575 ht1575).2, by omega, by omega, by omega, by omega, c1580, c1582, trivial⟩
        have hM1586 : Fq 0 [(7, 15), (9, 2), (9, 3), (10, 0), (10, 1), (10, 2), (10, 7), (10, 8), (10, 9), (11, 8), (11, 12), (11, 13), (11, 14), (11, 15), (11, 16), (11, 17), (11, 18), (24, -5), (26, -5)] m tg F F1562 := Fq_t (ln := ln) (ln1 := ln1518) hM1544 hX1549 hM1565 (by decide) (Or.inl rfl)
        have lm1587 := hx1563.1
        have ho1588 : own m1561 (me) ∧ tg1561 (me) = 9 := Ex_o hx1563 ⟨ho1546.1, ho1546.2⟩
        have ho1589 : own m1561 (sc) ∧ tg1561 (sc) = 11 := Ex_o hx1563 ⟨ho1547.1, ho1547.2⟩
        have ho1590 : own m1561 (pg) ∧ tg1561 (pg) = 10 := Ex_o hx1563 ⟨ho1548.1, ho1548.2⟩
        have hX1591 := Ex_t hX1549 hx1563
        have c1592 : NM m m1561 tg1561 := NM_t c1550 hx1563 c1574
        have c1593 : CR m1561 tg1561 F1562 (F pg (3 : Int)) (cr) := CR_x c1551 hx1563 hM1565 rfl
        refine Or.inl ⟨rfl, ?_⟩
        refine jx_ld (pc_q := 53) (l_q := L) (st_q := [rv (me)]) rfl (jl_rvn gL_0) ?_
        refine jx_ar (pc_q := 55) (st_q := [.int (i32 (11)), rv (me)]) rfl rfl rfl rfl ?_
        have q1594 := tz_b (F1562 (sc) (15 : Int))
        have q1595 : F1562 (sc) (7 : Int) = F (sc) (7 : Int) := ((show F1562 (sc) (7 : Int) = F1519 (sc) (7 : Int) from hM1565 _ _ ho1547.1 (own_z ho1547.1) (by rw [ho1547.2]; rfl)).trans q1556)
        have q1596 := lz_b (F1562 (sc) (14 : Int))
        have q1597 : F1562 (pg) (9 : Int) = Fx (pg) (9 : Int) := ((show F1562 (pg) (9 : Int) = F1519 (pg) (9 : Int) from hM1565 _ _ ho1548.1 (own_z ho1548.1) (by rw [ho1548.2]; rfl)).trans q1560)
        refine cx_vi (c := 8) (a := me) (st := []) (as := [.int (i32 (11))]) rfl rfl rfl ho1588.1 ho1588.2 (by decide) rfl ⟨rfl, rfl, (Nat.le_of_ble_eq_true rfl)⟩ rfl (k_LParser_expect (dd := d) (R := R) (m := m1561) (tg := tg1561) (ln := ln1561) (F := F1562) (me := me) (tk := 11) (hd := by omega) (hC := hC1564) (o_me := ho1588.1) (t_me := ho1588.2) (h_tk := by omega) (sc := sc) (pg := pg) (o_sc := ho1589.1) (t_sc := ho1589.2) (e_sc := (((show F1562 (me) (1 : Int) = F1519 (me) (1 : Int) from hM1565 _ _ ho1546.1 (own_z ho1546.1) (by rw [ho1546.2]; rfl)).trans ((show F1519 (me) (1 : Int) = Fx (me) (1 : Int) from hM1522 _ _ ho1308.1 (own_z ho1308.1) (by rw [ho1308.2]; rfl)).trans (show Fx (me) (1 : Int) = F (me) (1 : Int) from hMx _ _ o_me (own_z o_me) (by rw [t_me]; rfl)))).trans e_sc)) (o_pg := ho1590.1) (t_pg := ho1590.2) (e_pg := (((show F1562 (me) (0 : Int) = F1519 (me) (0 : Int) from hM1565 _ _ ho1546.1 (own_z ho1546.1) (by rw [ho1546.2]; rfl)).trans ((show F1519 (me) (0 : Int) = Fx (me) (0 : Int) from hM1522 _ _ ho1308.1 (own_z ho1308.1) (by rw [ho1308.2]; rfl)).trans (show Fx (me) (0 : Int) = F (me) (0 : Int) from hMx _ _ o_me (own_z o_me) (by rw [t_me]; rfl)))).trans e_pg)) (p_0 := by omega) (p_1 := by omega) (p_2 := by omega) (p_3 := by omega) (c_NP := c1573)) (fun o V_q hq => ?_)
        obtain ⟨m1598, tg1598, ln1598, F1599, rfl, rfl, hx1600, hC1601, hM1602, p1603, p1604, p1605, p1606, p1607, p1608, p1609, c1610, c1611, -⟩ | ⟨m1612, tg1612, ln1612, F1612, x1612, rfl, rfl, hx1612, hC1612, hM1612, ho1612, ht1612, p1613, p1614, p1615, p1616, c1617, c1618, -⟩ := hq
        rotate_left
        ·
          have c1619 : NM m m1612 tg1612 := NM_t c1592 hx1612 c1618
          have lm1620 := hx1612.1
          refine Or.inr (Or.inr (Or.inr ⟨_, _, rfl, cx_exc (c := 15) ho1612 ht1612 (by decide), rfl, ?_⟩))
          have q1621 : F1562 (sc) (7 : Int) = F (sc) (7 : Int) := q1595
          exact Or.inr ⟨m1612, tg1612, ln1612, F1612, x1612, rfl, rfl, Ex_t hX1591 hx1612, hC1612, Fq_t (ln := ln) (ln1 := ln1561) hM1586 hX1591 hM1612 (by decide) (Or.inl rfl), (And.intro ho1612 ht1612).1, (And.intro ho1612 ht1612).2, by omega, by omega, by omega, by omega, c1617, c1619, trivial⟩
        have hM1622 : Fq 0 [(7, 15), (9, 2), (9, 3), (10, 0), (10, 1), (10, 2), (10, 7), (10, 8), (10, 9), (11, 8), (11, 12), (11, 13), (11, 14), (11, 15), (11, 16), (11, 17), (11, 18), (24, -5), (26, -5)] m tg F F1599 := Fq_t (ln := ln) (ln1 := ln1561) hM1586 hX1591 hM1602 (by decide) (Or.inl rfl)
        have lm1623 := hx1600.1
        have ho1624 : own m1598 (me) ∧ tg1598 (me) = 9 := Ex_o hx1600 ⟨ho1588.1, ho1588.2⟩
        have ho1625 : own m1598 (sc) ∧ tg1598 (sc) = 11 := Ex_o hx1600 ⟨ho1589.1, ho1589.2⟩
        have ho1626 : own m1598 (pg) ∧ tg1598 (pg) = 10 := Ex_o hx1600 ⟨ho1590.1, ho1590.2⟩
        have hX1627 := Ex_t hX1591 hx1600
        have c1628 : NM m m1598 tg1598 := NM_t c1592 hx1600 c1611
        have c1629 : CR m1598 tg1598 F1599 (F pg (3 : Int)) (cr) := CR_x c1593 hx1600 hM1602 rfl
        refine Or.inl ⟨rfl, ?_⟩
        refine jx_ld (pc_q := 59) (l_q := L) (st_q := [rv (me)]) rfl (jl_rvn gL_0) ?_
        have q1630 := tz_b (F1599 (sc) (15 : Int))
        have q1631 : F1599 (sc) (7 : Int) = F (sc) (7 : Int) := ((show F1599 (sc) (7 : Int) = F1562 (sc) (7 : Int) from hM1602 _ _ ho1589.1 (own_z ho1589.1) (by rw [ho1589.2]; rfl)).trans q1595)
        have q1632 := lz_b (F1599 (sc) (14 : Int))
        have q1633 : F1599 (pg) (9 : Int) = Fx (pg) (9 : Int) := ((show F1599 (pg) (9 : Int) = F1562 (pg) (9 : Int) from hM1602 _ _ ho1590.1 (own_z ho1590.1) (by rw [ho1590.2]; rfl)).trans q1597)
        refine cx_vi (c := 8) (a := me) (st := []) (as := []) rfl rfl rfl ho1624.1 ho1624.2 (by decide) rfl ⟨rfl, rfl, (Nat.le_of_ble_eq_true rfl)⟩ rfl (k_LParser_endLine (dd := d) (R := R) (m := m1598) (tg := tg1598) (ln := ln1598) (F := F1599) (me := me) (hd := by omega) (hC := hC1601) (o_me := ho1624.1) (t_me := ho1624.2) (sc := sc) (pg := pg) (o_sc := ho1625.1) (t_sc := ho1625.2) (e_sc := (((show F1599 (me) (1 : Int) = F1562 (me) (1 : Int) from hM1602 _ _ ho1588.1 (own_z ho1588.1) (by rw [ho1588.2]; rfl)).trans ((show F1562 (me) (1 : Int) = F1519 (me) (1 : Int) from hM1565 _ _ ho1546.1 (own_z ho1546.1) (by rw [ho1546.2]; rfl)).trans ((show F1519 (me) (1 : Int) = Fx (me) (1 : Int) from hM1522 _ _ ho1308.1 (own_z ho1308.1) (by rw [ho1308.2]; rfl)).trans (show Fx (me) (1 : Int) = F (me) (1 : Int) from hMx _ _ o_me (own_z o_me) (by rw [t_me]; rfl))))).trans e_sc)) (o_pg := ho1626.1) (t_pg := ho1626.2) (e_pg := (((show F1599 (me) (0 : Int) = F1562 (me) (0 : Int) from hM1602 _ _ ho1588.1 (own_z ho1588.1) (by rw [ho1588.2]; rfl)).trans ((show F1562 (me) (0 : Int) = F1519 (me) (0 : Int) from hM1565 _ _ ho1546.1 (own_z ho1546.1) (by rw [ho1546.2]; rfl)).trans ((show F1519 (me) (0 : Int) = Fx (me) (0 : Int) from hM1522 _ _ ho1308.1 (own_z ho1308.1) (by rw [ho1308.2]; rfl)).trans (show Fx (me) (0 : Int) = F (me) (0 : Int) from hMx _ _ o_me (own_z o_me) (by rw [t_me]; rfl))))).trans e_pg)) (p_0 := by omega) (p_1 := by omega) (p_2 := by omega) (c_NP := c1610)) (fun o V_q hq => ?_)
        obtain ⟨m1634, tg1634, ln1634, F1635, rfl, rfl, hx1636, hC1637, hM1638, p1639, p1640, p1641, p1642, p1643, p1644, p1645, c1646, c1647, -⟩ | ⟨m1648, tg1648, ln1648, F1648, x1648, rfl, rfl, hx1648, hC1648, hM1648, ho1648, ht1648, p1649, p1650, p1651, p1652, c1653, c1654, -⟩ := hq
        rotate_left
        ·
          have c1655 : NM m m1648 tg1648 := NM_t c1628 hx1648 c1654
          have lm1656 := hx1648.1
          refine Or.inr (Or.inr (Or.inr ⟨_, _, rfl, cx_exc (c := 15) ho1648 ht1648 (by decide), rfl, ?_⟩))
          have q1657 : F1599 (sc) (7 : Int) = F (sc) (7 : Int) := q1631
          exact Or.inr ⟨m1648, tg1648, ln1648, F1648, x1648, rfl, rfl, Ex_t hX1627 hx1648, hC1648, Fq_t (ln := ln) (ln1 := ln1598) hM1622 hX1627 hM1648 (by decide) (Or.inl rfl), (And.intro ho1648 ht1648).1, (And.intro ho1648 ht1648).2, by omega, by omega, by omega, by omega, c1653, c1655, trivial⟩
        have hM1658 : Fq 0 [(7, 15), (9, 2), (9, 3), (10, 0), (10, 1), (10, 2), (10, 7), (10, 8), (10, 9), (11, 8), (11, 12), (11, 13), (11, 14), (11, 15), (11, 16), (11, 17), (11, 18), (24, -5), (26, -5)] m tg F F1635 := Fq_t (ln := ln) (ln1 := ln1598) hM1622 hX1627 hM1638 (by decide) (Or.inl rfl)
        have lm1659 := hx1636.1
        have ho1660 : own m1634 (me) ∧ tg1634 (me) = 9 := Ex_o hx1636 ⟨ho1624.1, ho1624.2⟩
        have ho1661 : own m1634 (sc) ∧ tg1634 (sc) = 11 := Ex_o hx1636 ⟨ho1625.1, ho1625.2⟩
        have ho1662 : own m1634 (pg) ∧ tg1634 (pg) = 10 := Ex_o hx1636 ⟨ho1626.1, ho1626.2⟩
        have hX1663 := Ex_t hX1627 hx1636
        have c1664 : NM m m1634 tg1634 := NM_t c1628 hx1636 c1647
        have c1665 : CR m1634 tg1634 F1635 (F pg (3 : Int)) (cr) := CR_x c1629 hx1636 hM1638 rfl
        refine Or.inl ⟨rfl, ?_⟩
        refine jx_ld (pc_q := 63) (l_q := L) (st_q := [rv (me)]) rfl (jl_rvn gL_0) ?_
        refine jx_ar (pc_q := 64) (st_q := [.int (i32 (1)), rv (me)]) rfl rfl rfl rfl ?_
        have q1666 := tz_b (F1635 (sc) (15 : Int))
        have q1667 : F1635 (sc) (7 : Int) = F (sc) (7 : Int) := ((show F1635 (sc) (7 : Int) = F1599 (sc) (7 : Int) from hM1638 _ _ ho1625.1 (own_z ho1625.1) (by rw [ho1625.2]; rfl)).trans q1631)
        have q1668 := lz_b (F1635 (sc) (14 : Int))
        have q1669 : F1635 (pg) (9 : Int) = Fx (pg) (9 : Int) := ((show F1635 (pg) (9 : Int) = F1599 (pg) (9 : Int) from hM1638 _ _ ho1626.1 (own_z ho1626.1) (by rw [ho1626.2]; rfl)).trans q1633)
        refine cx_vi (c := 8) (a := me) (st := []) (as := [.int (i32 (1))]) rfl rfl rfl ho1660.1 ho1660.2 (by decide) rfl ⟨rfl, rfl, (Nat.le_of_ble_eq_true rfl)⟩ rfl (k_LParser_needLevel (dd := d) (R := R) (m := m1634) (tg := tg1634) (ln := ln1634) (F := F1635) (me := me) (lv := 1) (hd := by omega) (hC := hC1637) (o_me := ho1660.1) (t_me := ho1660.2) (h_lv := by omega) (sc := sc) (pg := pg) (o_sc := ho1661.1) (t_sc := ho1661.2) (e_sc := (((show F1635 (me) (1 : Int) = F1599 (me) (1 : Int) from hM1638 _ _ ho1624.1 (own_z ho1624.1) (by rw [ho1624.2]; rfl)).trans ((show F1599 (me) (1 : Int) = F1562 (me) (1 : Int) from hM1602 _ _ ho1588.1 (own_z ho1588.1) (by rw [ho1588.2]; rfl)).trans ((show F1562 (me) (1 : Int) = F1519 (me) (1 : Int) from hM1565 _ _ ho1546.1 (own_z ho1546.1) (by rw [ho1546.2]; rfl)).trans ((show F1519 (me) (1 : Int) = Fx (me) (1 : Int) from hM1522 _ _ ho1308.1 (own_z ho1308.1) (by rw [ho1308.2]; rfl)).trans (show Fx (me) (1 : Int) = F (me) (1 : Int) from hMx _ _ o_me (own_z o_me) (by rw [t_me]; rfl)))))).trans e_sc)) (o_pg := ho1662.1) (t_pg := ho1662.2) (e_pg := (((show F1635 (me) (0 : Int) = F1599 (me) (0 : Int) from hM1638 _ _ ho1624.1 (own_z ho1624.1) (by rw [ho1624.2]; rfl)).trans ((show F1599 (me) (0 : Int) = F1562 (me) (0 : Int) from hM1602 _ _ ho1588.1 (own_z ho1588.1) (by rw [ho1588.2]; rfl)).trans ((show F1562 (me) (0 : Int) = F1519 (me) (0 : Int) from hM1565 _ _ ho1546.1 (own_z ho1546.1) (by rw [ho1546.2]; rfl)).trans ((show F1519 (me) (0 : Int) = Fx (me) (0 : Int) from hM1522 _ _ ho1308.1 (own_z ho1308.1) (by rw [ho1308.2]; rfl)).trans (show Fx (me) (0 : Int) = F (me) (0 : Int) from hMx _ _ o_me (own_z o_me) (by rw [t_me]; rfl)))))).trans e_pg)) (p_0 := by omega) (p_1 := by omega) (p_2 := by omega) (c_NP := c1646)) (fun o V_q hq => ?_)
        obtain ⟨m1670, tg1670, ln1670, F1671, rfl, rfl, hx1672, hC1673, hM1674, p1675, p1676, p1677, p1678, p1679, p1680, p1681, p1682, p1683, c1684, c1685, -⟩ | ⟨m1686, tg1686, ln1686, F1686, x1686, rfl, rfl, hx1686, hC1686, hM1686, ho1686, ht1686, p1687, p1688, p1689, p1690, c1691, c1692, -⟩ := hq
        rotate_left
        ·
          have c1693 : NM m m1686 tg1686 := NM_t c1664 hx1686 c1692
          have lm1694 := hx1686.1
          refine Or.inr (Or.inr (Or.inr ⟨_, _, rfl, cx_exc (c := 15) ho1686 ht1686 (by decide), rfl, ?_⟩))
          have q1695 : F1635 (sc) (7 : Int) = F (sc) (7 : Int) := q1667
          exact Or.inr ⟨m1686, tg1686, ln1686, F1686, x1686, rfl, rfl, Ex_t hX1663 hx1686, hC1686, Fq_t (ln := ln) (ln1 := ln1634) hM1658 hX1663 hM1686 (by decide) (Or.inl rfl), (And.intro ho1686 ht1686).1, (And.intro ho1686 ht1686).2, by omega, by omega, by omega, by omega, c1691, c1693, trivial⟩
        have hM1696 : Fq 0 [(7, 15), (9, 2), (9, 3), (10, 0), (10, 1), (10, 2), (10, 7), (10, 8), (10, 9), (11, 8), (11, 12), (11, 13), (11, 14), (11, 15), (11, 16), (11, 17), (11, 18), (24, -5), (26, -5)] m tg F F1671 := Fq_t (ln := ln) (ln1 := ln1634) hM1658 hX1663 hM1674 (by decide) (Or.inl rfl)
        have lm1697 := hx1672.1
        have ho1698 : own m1670 (me) ∧ tg1670 (me) = 9 := Ex_o hx1672 ⟨ho1660.1, ho1660.2⟩
        have ho1699 : own m1670 (sc) ∧ tg1670 (sc) = 11 := Ex_o hx1672 ⟨ho1661.1, ho1661.2⟩
        have ho1700 : own m1670 (pg) ∧ tg1670 (pg) = 10 := Ex_o hx1672 ⟨ho1662.1, ho1662.2⟩
        have hX1701 := Ex_t hX1663 hx1672
        have c1702 : NM m m1670 tg1670 := NM_t c1664 hx1672 c1685
        have c1703 : CR m1670 tg1670 F1671 (F pg (3 : Int)) (cr) := CR_x c1665 hx1672 hM1674 rfl
        refine Or.inl ⟨rfl, ?_⟩
        refine jx_ar (pc_q := 68) (st_q := [.int (i32 (0))]) rfl rfl rfl rfl ?_
        refine jx_ld (pc_q := 69) (l_q := jSto1 L 1 (.int (i32 (0)))) (st_q := []) rfl rfl ?_
        obtain ⟨L1704, eL1704⟩ : ∃ q : jL, q = jSto1 L 1 (.int (i32 (0))) := ⟨_, rfl⟩
        rw [← eL1704]
        have g1705 : jGet L1704 0 = some (rv (me)) := eL1704 ▸ jg_nr (by decide) gL_0
        have g1706 : jGet L1704 1 = some (.int (i32 (0))) := eL1704 ▸ jg_eq
        clear eL1704
        have q1707 : F1671 (sc) (8 : Int) = F1635 (sc) (8 : Int) := (show F1671 (sc) (8 : Int) = F1635 (sc) (8 : Int) from hM1674 _ _ ho1661.1 (own_z ho1661.1) (by rw [ho1661.2]; rfl))
        have q1708 : F1671 (sc) (15 : Int) = F1635 (sc) (15 : Int) := (show F1671 (sc) (15 : Int) = F1635 (sc) (15 : Int) from hM1674 _ _ ho1661.1 (own_z ho1661.1) (by rw [ho1661.2]; rfl))
        have q1709 : tz (F1671 (sc) (15 : Int)) = tz (F1635 (sc) (15 : Int)) := by rw [q1708]
        have q1710 := tz_b (F1635 (sc) (15 : Int))
        have q1711 : F1671 (sc) (14 : Int) = F1635 (sc) (14 : Int) := (show F1671 (sc) (14 : Int) = F1635 (sc) (14 : Int) from hM1674 _ _ ho1661.1 (own_z ho1661.1) (by rw [ho1661.2]; rfl))
        have q1712 : lz (F1671 (sc) (14 : Int)) = lz (F1635 (sc) (14 : Int)) := by rw [q1711]
        have q1713 := lz_b (F1635 (sc) (14 : Int))
        have q1714 : F1671 (pg) (9 : Int) = Fx (pg) (9 : Int) := ((show F1671 (pg) (9 : Int) = F1635 (pg) (9 : Int) from hM1674 _ _ ho1662.1 (own_z ho1662.1) (by rw [ho1662.2]; rfl)).trans q1669)
        exact k_LParser_readPlaced_at_69 (X := X) (d := d) (R := R) (m := m) (tg := tg) (ln := ln) (F := F) (cr := cr) (me := me) (hd := hd) (hC := hC) (sc := sc) (pg := pg) (o_sc := o_sc) (t_sc := t_sc) (e_sc := e_sc) (o_pg := o_pg) (t_pg := t_pg) (e_pg := e_pg) (o_me := o_me) (t_me := t_me) (p_0 := p_0) (p_1 := p_1) (c_NP := c_NP) (c_CR := c_CR) _ L1704 m1670 tg1670 ln1670 F1671 (0) rfl g1705 g1706 hX1701 hC1673 hM1696 (by omega) (by omega) (by omega) (by omega) (by omega) (by omega) (by omega) (by omega) (by omega) (by omega) c1684 c1702 (CR_m c1703 (by omega))
      · have _q := h1514
        have t1715 : lz (Fx (sc) (14 : Int)) = 1 := lz_p (by omega)
        refine jx_ld (pc_q := 20) (l_q := L) (st_q := [rv (me)]) rfl (jl_rvn gL_0) ?_
        refine cx_gr (pc_q := 23) (c := 8) (q := 1) (v := sc) rfl rfl (by decide) (by decide) rfl rfl ho1308.1 ho1308.2 ((show Fx (me) (1 : Int) = F (me) (1 : Int) from hMx _ _ o_me (own_z o_me) (by rw [t_me]; rfl)).trans e_sc) ?_
        refine cx_gi (pc_q := 26) (c := 10) (q := 15) (v := Fx (sc) (15 : Int)) rfl rfl (by decide) (by decide) (Or.inl rfl) rfl ho1309.1 ho1309.2 rfl ?_
        have b1716 : (-2147483648 : Int) ≤ Fx (sc) (15 : Int) ∧ Fx (sc) (15 : Int) ≤ 2147483647 := by have z := HC_i (c := 10) (q := 15) hCx ho1309.1 ho1309.2 (by decide) rfl; rw [show Fx (sc) ((15 : Nat) : Int) = Fx (sc) (15 : Int) from rfl] at z; exact z
        refine jx_ar (pc_q := 28) (st_q := [.int (i32 (30)), .int (i32 (Fx (sc) (15 : Int)))]) rfl rfl rfl rfl ?_
        refine jx_icmp_ne (pc_q := 31) (tg := 41) rfl rfl rfl (by omega) (by omega) (by decide) (by decide) (fun h1717 => ?_) (fun h1717 => ?_)
        · have _q := h1717
          refine jx_ld (pc_q := 42) (l_q := L) (st_q := [rv (me)]) rfl (jl_rvn gL_0) ?_
          refine jx_ar (pc_q := 43) (st_q := [.int (i32 (0)), rv (me)]) rfl rfl rfl rfl ?_
          have q1718 := tz_b (Fx (sc) (15 : Int))
          have q1719 : Fx (sc) (7 : Int) = F (sc) (7 : Int) := (show Fx (sc) (7 : Int) = F (sc) (7 : Int) from hMx _ _ o_sc (own_z o_sc) (by rw [t_sc]; rfl))
          have q1720 := lz_b (Fx (sc) (14 : Int))
          refine cx_vi (c := 8) (a := me) (st := []) (as := [.int (i32 (0))]) rfl rfl rfl ho1308.1 ho1308.2 (by decide) rfl ⟨rfl, rfl, (Nat.le_of_ble_eq_true rfl)⟩ rfl (k_LParser_needLevel (dd := d) (R := R) (m := mx) (tg := tgx) (ln := lnx) (F := Fx) (me := me) (lv := 0) (hd := by omega) (hC := hCx) (o_me := ho1308.1) (t_me := ho1308.2) (h_lv := by omega) (sc := sc) (pg := pg) (o_sc := ho1309.1) (t_sc := ho1309.2) (e_sc := ((show Fx (me) (1 : Int) = F (me) (1 : Int) from hMx _ _ o_me (own_z o_me) (by rw [t_me]; rfl)).trans e_sc)) (o_pg := ho1310.1) (t_pg := ho1310.2) (e_pg := ((show Fx (me) (0 : Int) = F (me) (0 : Int) from hMx _ _ o_me (own_z o_me) (by rw [t_me]; rfl)).trans e_pg)) (p_0 := by omega) (p_1 := by omega) (p_2 := by omega) (c_NP := cx_NP)) (fun o V_q hq => ?_)
          obtain ⟨m1721, tg1721, ln1721, F1722, rfl, rfl, hx1723, hC1724, hM1725, p1726, p1727, p1728, p1729, p1730, p1731, p1732, p1733, p1734, c1735, c1736, -⟩ | ⟨m1737, tg1737, ln1737, F1737, x1737, rfl, rfl, hx1737, hC1737, hM1737, ho1737, ht1737, p1738, p1739, p1740, p1741, c1742, c1743, -⟩ := hq
          rotate_left
          ·
            have c1744 : NM m m1737 tg1737 := NM_t cx_NM hx1737 c1743
            have lm1745 := hx1737.1
            refine Or.inr (Or.inr (Or.inr ⟨_, _, rfl, cx_exc (c := 15) ho1737 ht1737 (by decide), rfl, ?_⟩))
            have q1746 : Fx (sc) (7 : Int) = F (sc) (7 : Int) := (show Fx (sc) (7 : Int) = F (sc) (7 : Int) from hMx _ _ o_sc (own_z o_sc) (by rw [t_sc]; rfl))
            exact Or.inr ⟨m1737, tg1737, ln1737, F1737, x1737, rfl, rfl, Ex_t hXx hx1737, hC1737, Fq_t (ln := ln) (ln1 := lnx) hMx hXx hM1737 (by decide) (Or.inl rfl), (And.intro ho1737 ht1737).1, (And.intro ho1737 ht1737).2, by omega, by omega, by omega, by omega, c1742, c1744, trivial⟩
          have hM1747 : Fq 0 [(7, 15), (9, 2), (9, 3), (10, 0), (10, 1), (10, 2), (10, 7), (10, 8), (10, 9), (11, 8), (11, 12), (11, 13), (11, 14), (11, 15), (11, 16), (11, 17), (11, 18), (24, -5), (26, -5)] m tg F F1722 := Fq_t (ln := ln) (ln1 := lnx) hMx hXx hM1725 (by decide) (Or.inl rfl)
          have lm1748 := hx1723.1
          have ho1749 : own m1721 (me) ∧ tg1721 (me) = 9 := Ex_o hx1723 ⟨ho1308.1, ho1308.2⟩
          have ho1750 : own m1721 (sc) ∧ tg1721 (sc) = 11 := Ex_o hx1723 ⟨ho1309.1, ho1309.2⟩
          have ho1751 : own m1721 (pg) ∧ tg1721 (pg) = 10 := Ex_o hx1723 ⟨ho1310.1, ho1310.2⟩
          have hX1752 := Ex_t hXx hx1723
          have c1753 : NM m m1721 tg1721 := NM_t cx_NM hx1723 c1736
          have c1754 : CR m1721 tg1721 F1722 (F pg (3 : Int)) (cr) := CR_x cx_CR hx1723 hM1725 rfl
          refine Or.inl ⟨rfl, ?_⟩
          refine jx_ld (pc_q := 47) (l_q := L) (st_q := [rv (me)]) rfl (jl_rvn gL_0) ?_
          refine jx_ar (pc_q := 49) (st_q := [.int (i32 (28)), rv (me)]) rfl rfl rfl rfl ?_
          have q1755 : F1722 (sc) (8 : Int) = Fx (sc) (8 : Int) := (show F1722 (sc) (8 : Int) = Fx (sc) (8 : Int) from hM1725 _ _ ho1309.1 (own_z ho1309.1) (by rw [ho1309.2]; rfl))
          have q1756 : F1722 (sc) (15 : Int) = Fx (sc) (15 : Int) := (show F1722 (sc) (15 : Int) = Fx (sc) (15 : Int) from hM1725 _ _ ho1309.1 (own_z ho1309.1) (by rw [ho1309.2]; rfl))
          have q1757 : tz (F1722 (sc) (15 : Int)) = tz (Fx (sc) (15 : Int)) := by rw [q1756]
          have q1758 := tz_b (Fx (sc) (15 : Int))
          have q1759 : F1722 (sc) (7 : Int) = F (sc) (7 : Int) := ((show F1722 (sc) (7 : Int) = Fx (sc) (7 : Int) from hM1725 _ _ ho1309.1 (own_z ho1309.1) (by rw [ho1309.2]; rfl)).trans (show Fx (sc) (7 : Int) = F (sc) (7 : Int) from hMx _ _ o_sc (own_z o_sc) (by rw [t_sc]; rfl)))
          have q1760 : F1722 (sc) (14 : Int) = Fx (sc) (14 : Int) := (show F1722 (sc) (14 : Int) = Fx (sc) (14 : Int) from hM1725 _ _ ho1309.1 (own_z ho1309.1) (by rw [ho1309.2]; rfl))
          have q1761 : lz (F1722 (sc) (14 : Int)) = lz (Fx (sc) (14 : Int)) := by rw [q1760]
          have q1762 := lz_b (Fx (sc) (14 : Int))
          have q1763 : F1722 (pg) (9 : Int) = Fx (pg) (9 : Int) := (show F1722 (pg) (9 : Int) = Fx (pg) (9 : Int) from hM1725 _ _ ho1310.1 (own_z ho1310.1) (by rw [ho1310.2]; rfl))
          refine cx_vi (c := 8) (a := me) (st := []) (as := [.int (i32 (28))]) rfl rfl rfl ho1749.1 ho1749.2 (by decide) rfl ⟨rfl, rfl, (Nat.le_of_ble_eq_true rfl)⟩ rfl (k_LParser_expect (dd := d) (R := R) (m := m1721) (tg := tg1721) (ln := ln1721) (F := F1722) (me := me) (tk := 28) (hd := by omega) (hC := hC1724) (o_me := ho1749.1) (t_me := ho1749.2) (h_tk := by omega) (sc := sc) (pg := pg) (o_sc := ho1750.1) (t_sc := ho1750.2) (e_sc := (((show F1722 (me) (1 : Int) = Fx (me) (1 : Int) from hM1725 _ _ ho1308.1 (own_z ho1308.1) (by rw [ho1308.2]; rfl)).trans (show Fx (me) (1 : Int) = F (me) (1 : Int) from hMx _ _ o_me (own_z o_me) (by rw [t_me]; rfl))).trans e_sc)) (o_pg := ho1751.1) (t_pg := ho1751.2) (e_pg := (((show F1722 (me) (0 : Int) = Fx (me) (0 : Int) from hM1725 _ _ ho1308.1 (own_z ho1308.1) (by rw [ho1308.2]; rfl)).trans (show Fx (me) (0 : Int) = F (me) (0 : Int) from hMx _ _ o_me (own_z o_me) (by rw [t_me]; rfl))).trans e_pg)) (p_0 := by omega) (p_1 := by omega) (p_2 := by omega) (p_3 := by omega) (c_NP := c1735)) (fun o V_q hq => ?_)
          obtain ⟨m1764, tg1764, ln1764, F1765, rfl, rfl, hx1766, hC1767, hM1768, p1769, p1770, p1771, p1772, p1773, p1774, p1775, c1776, c1777, -⟩ | ⟨m1778, tg1778, ln1778, F1778, x1778, rfl, rfl, hx1778, hC1778, hM1778, ho1778, ht1778, p1779, p1780, p1781, p1782, c1783, c1784, -⟩ := hq
          rotate_left
          ·
            have c1785 : NM m m1778 tg1778 := NM_t c1753 hx1778 c1784
            have lm1786 := hx1778.1
            refine Or.inr (Or.inr (Or.inr ⟨_, _, rfl, cx_exc (c := 15) ho1778 ht1778 (by decide), rfl, ?_⟩))
            have q1787 : F1722 (sc) (8 : Int) = Fx (sc) (8 : Int) := q1755
            have q1788 : F1722 (sc) (7 : Int) = F (sc) (7 : Int) := q1759
            exact Or.inr ⟨m1778, tg1778, ln1778, F1778, x1778, rfl, rfl, Ex_t hX1752 hx1778, hC1778, Fq_t (ln := ln) (ln1 := ln1721) hM1747 hX1752 hM1778 (by decide) (Or.inl rfl), (And.intro ho1778 ht1778).1, (And.intro ho1778 ht1778).2, by omega, by omega, by omega, by omega, c1783, c1785, trivial⟩
          have hM1789 : Fq 0 [(7, 15), (9, 2), (9, 3), (10, 0), (10, 1), (10, 2), (10, 7), (10, 8), (10, 9), (11, 8), (11, 12), (11, 13), (11, 14), (11, 15), (11, 16), (11, 17), (11, 18), (24, -5), (26, -5)] m tg F F1765 := Fq_t (ln := ln) (ln1 := ln1721) hM1747 hX1752 hM1768 (by decide) (Or.inl rfl)
          have lm1790 := hx1766.1
          have ho1791 : own m1764 (me) ∧ tg1764 (me) = 9 := Ex_o hx1766 ⟨ho1749.1, ho1749.2⟩
          have ho1792 : own m1764 (sc) ∧ tg1764 (sc) = 11 := Ex_o hx1766 ⟨ho1750.1, ho1750.2⟩
          have ho1793 : own m1764 (pg) ∧ tg1764 (pg) = 10 := Ex_o hx1766 ⟨ho1751.1, ho1751.2⟩
          have hX1794 := Ex_t hX1752 hx1766
          have c1795 : NM m m1764 tg1764 := NM_t c1753 hx1766 c1777
          have c1796 : CR m1764 tg1764 F1765 (F pg (3 : Int)) (cr) := CR_x c1754 hx1766 hM1768 rfl
          refine Or.inl ⟨rfl, ?_⟩
          refine jx_ld (pc_q := 53) (l_q := L) (st_q := [rv (me)]) rfl (jl_rvn gL_0) ?_
          refine jx_ar (pc_q := 55) (st_q := [.int (i32 (11)), rv (me)]) rfl rfl rfl rfl ?_
          have q1797 := tz_b (F1765 (sc) (15 : Int))
          have q1798 : F1765 (sc) (7 : Int) = F (sc) (7 : Int) := ((show F1765 (sc) (7 : Int) = F1722 (sc) (7 : Int) from hM1768 _ _ ho1750.1 (own_z ho1750.1) (by rw [ho1750.2]; rfl)).trans q1759)
          have q1799 := lz_b (F1765 (sc) (14 : Int))
          have q1800 : F1765 (pg) (9 : Int) = Fx (pg) (9 : Int) := ((show F1765 (pg) (9 : Int) = F1722 (pg) (9 : Int) from hM1768 _ _ ho1751.1 (own_z ho1751.1) (by rw [ho1751.2]; rfl)).trans q1763)
          refine cx_vi (c := 8) (a := me) (st := []) (as := [.int (i32 (11))]) rfl rfl rfl ho1791.1 ho1791.2 (by decide) rfl ⟨rfl, rfl, (Nat.le_of_ble_eq_true rfl)⟩ rfl (k_LParser_expect (dd := d) (R := R) (m := m1764) (tg := tg1764) (ln := ln1764) (F := F1765) (me := me) (tk := 11) (hd := by omega) (hC := hC1767) (o_me := ho1791.1) (t_me := ho1791.2) (h_tk := by omega) (sc := sc) (pg := pg) (o_sc := ho1792.1) (t_sc := ho1792.2) (e_sc := (((show F1765 (me) (1 : Int) = F1722 (me) (1 : Int) from hM1768 _ _ ho1749.1 (own_z ho1749.1) (by rw [ho1749.2]; rfl)).trans ((show F1722 (me) (1 : Int) = Fx (me) (1 : Int) from hM1725 _ _ ho1308.1 (own_z ho1308.1) (by rw [ho1308.2]; rfl)).trans (show Fx (me) (1 : Int) = F (me) (1 : Int) from hMx _ _ o_me (own_z o_me) (by rw [t_me]; rfl)))).trans e_sc)) (o_pg := ho1793.1) (t_pg := ho1793.2) (e_pg := (((show F1765 (me) (0 : Int) = F1722 (me) (0 : Int) from hM1768 _ _ ho1749.1 (own_z ho1749.1) (by rw [ho1749.2]; rfl)).trans ((show F1722 (me) (0 : Int) = Fx (me) (0 : Int) from hM1725 _ _ ho1308.1 (own_z ho1308.1) (by rw [ho1308.2]; rfl)).trans (show Fx (me) (0 : Int) = F (me) (0 : Int) from hMx _ _ o_me (own_z o_me) (by rw [t_me]; rfl)))).trans e_pg)) (p_0 := by omega) (p_1 := by omega) (p_2 := by omega) (p_3 := by omega) (c_NP := c1776)) (fun o V_q hq => ?_)
          obtain ⟨m1801, tg1801, ln1801, F1802, rfl, rfl, hx1803, hC1804, hM1805, p1806, p1807, p1808, p1809, p1810, p1811, p1812, c1813, c1814, -⟩ | ⟨m1815, tg1815, ln1815, F1815, x1815, rfl, rfl, hx1815, hC1815, hM1815, ho1815, ht1815, p1816, p1817, p1818, p1819, c1820, c1821, -⟩ := hq
          rotate_left
          ·
            have c1822 : NM m m1815 tg1815 := NM_t c1795 hx1815 c1821
            have lm1823 := hx1815.1
            refine Or.inr (Or.inr (Or.inr ⟨_, _, rfl, cx_exc (c := 15) ho1815 ht1815 (by decide), rfl, ?_⟩))
            have q1824 : F1765 (sc) (7 : Int) = F (sc) (7 : Int) := q1798
            exact Or.inr ⟨m1815, tg1815, ln1815, F1815, x1815, rfl, rfl, Ex_t hX1794 hx1815, hC1815, Fq_t (ln := ln) (ln1 := ln1764) hM1789 hX1794 hM1815 (by decide) (Or.inl rfl), (And.intro ho1815 ht1815).1, (And.intro ho1815 ht1815).2, by omega, by omega, by omega, by omega, c1820, c1822, trivial⟩
          have hM1825 : Fq 0 [(7, 15), (9, 2), (9, 3), (10, 0), (10, 1), (10, 2), (10, 7), (10, 8), (10, 9), (11, 8), (11, 12), (11, 13), (11, 14), (11, 15), (11, 16), (11, 17), (11, 18), (24, -5), (26, -5)] m tg F F1802 := Fq_t (ln := ln) (ln1 := ln1764) hM1789 hX1794 hM1805 (by decide) (Or.inl rfl)
          have lm1826 := hx1803.1
          have ho1827 : own m1801 (me) ∧ tg1801 (me) = 9 := Ex_o hx1803 ⟨ho1791.1, ho1791.2⟩
          have ho1828 : own m1801 (sc) ∧ tg1801 (sc) = 11 := Ex_o hx1803 ⟨ho1792.1, ho1792.2⟩
          have ho1829 : own m1801 (pg) ∧ tg1801 (pg) = 10 := Ex_o hx1803 ⟨ho1793.1, ho1793.2⟩
          have hX1830 := Ex_t hX1794 hx1803
          have c1831 : NM m m1801 tg1801 := NM_t c1795 hx1803 c1814
          have c1832 : CR m1801 tg1801 F1802 (F pg (3 : Int)) (cr) := CR_x c1796 hx1803 hM1805 rfl
          refine Or.inl ⟨rfl, ?_⟩
          refine jx_ld (pc_q := 59) (l_q := L) (st_q := [rv (me)]) rfl (jl_rvn gL_0) ?_
          have q1833 := tz_b (F1802 (sc) (15 : Int))
          have q1834 : F1802 (sc) (7 : Int) = F (sc) (7 : Int) := ((show F1802 (sc) (7 : Int) = F1765 (sc) (7 : Int) from hM1805 _ _ ho1792.1 (own_z ho1792.1) (by rw [ho1792.2]; rfl)).trans q1798)
          have q1835 := lz_b (F1802 (sc) (14 : Int))
          have q1836 : F1802 (pg) (9 : Int) = Fx (pg) (9 : Int) := ((show F1802 (pg) (9 : Int) = F1765 (pg) (9 : Int) from hM1805 _ _ ho1793.1 (own_z ho1793.1) (by rw [ho1793.2]; rfl)).trans q1800)
          refine cx_vi (c := 8) (a := me) (st := []) (as := []) rfl rfl rfl ho1827.1 ho1827.2 (by decide) rfl ⟨rfl, rfl, (Nat.le_of_ble_eq_true rfl)⟩ rfl (k_LParser_endLine (dd := d) (R := R) (m := m1801) (tg := tg1801) (ln := ln1801) (F := F1802) (me := me) (hd := by omega) (hC := hC1804) (o_me := ho1827.1) (t_me := ho1827.2) (sc := sc) (pg := pg) (o_sc := ho1828.1) (t_sc := ho1828.2) (e_sc := (((show F1802 (me) (1 : Int) = F1765 (me) (1 : Int) from hM1805 _ _ ho1791.1 (own_z ho1791.1) (by rw [ho1791.2]; rfl)).trans ((show F1765 (me) (1 : Int) = F1722 (me) (1 : Int) from hM1768 _ _ ho1749.1 (own_z ho1749.1) (by rw [ho1749.2]; rfl)).trans ((show F1722 (me) (1 : Int) = Fx (me) (1 : Int) from hM1725 _ _ ho1308.1 (own_z ho1308.1) (by rw [ho1308.2]; rfl)).trans (show Fx (me) (1 : Int) = F (me) (1 : Int) from hMx _ _ o_me (own_z o_me) (by rw [t_me]; rfl))))).trans e_sc)) (o_pg := ho1829.1) (t_pg := ho1829.2) (e_pg := (((show F1802 (me) (0 : Int) = F1765 (me) (0 : Int) from hM1805 _ _ ho1791.1 (own_z ho1791.1) (by rw [ho1791.2]; rfl)).trans ((show F1765 (me) (0 : Int) = F1722 (me) (0 : Int) from hM1768 _ _ ho1749.1 (own_z ho1749.1) (by rw [ho1749.2]; rfl)).trans ((show F1722 (me) (0 : Int) = Fx (me) (0 : Int) from hM1725 _ _ ho1308.1 (own_z ho1308.1) (by rw [ho1308.2]; rfl)).trans (show Fx (me) (0 : Int) = F (me) (0 : Int) from hMx _ _ o_me (own_z o_me) (by rw [t_me]; rfl))))).trans e_pg)) (p_0 := by omega) (p_1 := by omega) (p_2 := by omega) (c_NP := c1813)) (fun o V_q hq => ?_)
          obtain ⟨m1837, tg1837, ln1837, F1838, rfl, rfl, hx1839, hC1840, hM1841, p1842, p1843, p1844, p1845, p1846, p1847, p1848, c1849, c1850, -⟩ | ⟨m1851, tg1851, ln1851, F1851, x1851, rfl, rfl, hx1851, hC1851, hM1851, ho1851, ht1851, p1852, p1853, p1854, p1855, c1856, c1857, -⟩ := hq
          rotate_left
          ·
            have c1858 : NM m m1851 tg1851 := NM_t c1831 hx1851 c1857
            have lm1859 := hx1851.1
            refine Or.inr (Or.inr (Or.inr ⟨_, _, rfl, cx_exc (c := 15) ho1851 ht1851 (by decide), rfl, ?_⟩))
            have q1860 : F1802 (sc) (7 : Int) = F (sc) (7 : Int) := q1834
            exact Or.inr ⟨m1851, tg1851, ln1851, F1851, x1851, rfl, rfl, Ex_t hX1830 hx1851, hC1851, Fq_t (ln := ln) (ln1 := ln1801) hM1825 hX1830 hM1851 (by decide) (Or.inl rfl), (And.intro ho1851 ht1851).1, (And.intro ho1851 ht1851).2, by omega, by omega, by omega, by omega, c1856, c1858, trivial⟩
          have hM1861 : Fq 0 [(7, 15), (9, 2), (9, 3), (10, 0), (10, 1), (10, 2), (10, 7), (10, 8), (10, 9), (11, 8), (11, 12), (11, 13), (11, 14), (11, 15), (11, 16), (11, 17), (11, 18), (24, -5), (26, -5)] m tg F F1838 := Fq_t (ln := ln) (ln1 := ln1801) hM1825 hX1830 hM1841 (by decide) (Or.inl rfl)
          have lm1862 := hx1839.1
          have ho1863 : own m1837 (me) ∧ tg1837 (me) = 9 := Ex_o hx1839 ⟨ho1827.1, ho1827.2⟩
          have ho1864 : own m1837 (sc) ∧ tg1837 (sc) = 11 := Ex_o hx1839 ⟨ho1828.1, ho1828.2⟩
          have ho1865 : own m1837 (pg) ∧ tg1837 (pg) = 10 := Ex_o hx1839 ⟨ho1829.1, ho1829.2⟩
          have hX1866 := Ex_t hX1830 hx1839
          have c1867 : NM m m1837 tg1837 := NM_t c1831 hx1839 c1850
          have c1868 : CR m1837 tg1837 F1838 (F pg (3 : Int)) (cr) := CR_x c1832 hx1839 hM1841 rfl
          refine Or.inl ⟨rfl, ?_⟩
          refine jx_ld (pc_q := 63) (l_q := L) (st_q := [rv (me)]) rfl (jl_rvn gL_0) ?_
          refine jx_ar (pc_q := 64) (st_q := [.int (i32 (1)), rv (me)]) rfl rfl rfl rfl ?_
          have q1869 := tz_b (F1838 (sc) (15 : Int))
          have q1870 : F1838 (sc) (7 : Int) = F (sc) (7 : Int) := ((show F1838 (sc) (7 : Int) = F1802 (sc) (7 : Int) from hM1841 _ _ ho1828.1 (own_z ho1828.1) (by rw [ho1828.2]; rfl)).trans q1834)
          have q1871 := lz_b (F1838 (sc) (14 : Int))
          have q1872 : F1838 (pg) (9 : Int) = Fx (pg) (9 : Int) := ((show F1838 (pg) (9 : Int) = F1802 (pg) (9 : Int) from hM1841 _ _ ho1829.1 (own_z ho1829.1) (by rw [ho1829.2]; rfl)).trans q1836)
          refine cx_vi (c := 8) (a := me) (st := []) (as := [.int (i32 (1))]) rfl rfl rfl ho1863.1 ho1863.2 (by decide) rfl ⟨rfl, rfl, (Nat.le_of_ble_eq_true rfl)⟩ rfl (k_LParser_needLevel (dd := d) (R := R) (m := m1837) (tg := tg1837) (ln := ln1837) (F := F1838) (me := me) (lv := 1) (hd := by omega) (hC := hC1840) (o_me := ho1863.1) (t_me := ho1863.2) (h_lv := by omega) (sc := sc) (pg := pg) (o_sc := ho1864.1) (t_sc := ho1864.2) (e_sc := (((show F1838 (me) (1 : Int) = F1802 (me) (1 : Int) from hM1841 _ _ ho1827.1 (own_z ho1827.1) (by rw [ho1827.2]; rfl)).trans ((show F1802 (me) (1 : Int) = F1765 (me) (1 : Int) from hM1805 _ _ ho1791.1 (own_z ho1791.1) (by rw [ho1791.2]; rfl)).trans ((show F1765 (me) (1 : Int) = F1722 (me) (1 : Int) from hM1768 _ _ ho1749.1 (own_z ho1749.1) (by rw [ho1749.2]; rfl)).trans ((show F1722 (me) (1 : Int) = Fx (me) (1 : Int) from hM1725 _ _ ho1308.1 (own_z ho1308.1) (by rw [ho1308.2]; rfl)).trans (show Fx (me) (1 : Int) = F (me) (1 : Int) from hMx _ _ o_me (own_z o_me) (by rw [t_me]; rfl)))))).trans e_sc)) (o_pg := ho1865.1) (t_pg := ho1865.2) (e_pg := (((show F1838 (me) (0 : Int) = F1802 (me) (0 : Int) from hM1841 _ _ ho1827.1 (own_z ho1827.1) (by rw [ho1827.2]; rfl)).trans ((show F1802 (me) (0 : Int) = F1765 (me) (0 : Int) from hM1805 _ _ ho1791.1 (own_z ho1791.1) (by rw [ho1791.2]; rfl)).trans ((show F1765 (me) (0 : Int) = F1722 (me) (0 : Int) from hM1768 _ _ ho1749.1 (own_z ho1749.1) (by rw [ho1749.2]; rfl)).trans ((show F1722 (me) (0 : Int) = Fx (me) (0 : Int) from hM1725 _ _ ho1308.1 (own_z ho1308.1) (by rw [ho1308.2]; rfl)).trans (show Fx (me) (0 : Int) = F (me) (0 : Int) from hMx _ _ o_me (own_z o_me) (by rw [t_me]; rfl)))))).trans e_pg)) (p_0 := by omega) (p_1 := by omega) (p_2 := by omega) (c_NP := c1849)) (fun o V_q hq => ?_)
          obtain ⟨m1873, tg1873, ln1873, F1874, rfl, rfl, hx1875, hC1876, hM1877, p1878, p1879, p1880, p1881, p1882, p1883, p1884, p1885, p1886, c1887, c1888, -⟩ | ⟨m1889, tg1889, ln1889, F1889, x1889, rfl, rfl, hx1889, hC1889, hM1889, ho1889, ht1889, p1890, p1891, p1892, p1893, c1894, c1895, -⟩ := hq
          rotate_left
          ·
            have c1896 : NM m m1889 tg1889 := NM_t c1867 hx1889 c1895
            have lm1897 := hx1889.1
            refine Or.inr (Or.inr (Or.inr ⟨_, _, rfl, cx_exc (c := 15) ho1889 ht1889 (by decide), rfl, ?_⟩))
            have q1898 : F1838 (sc) (7 : Int) = F (sc) (7 : Int) := q1870
            exact Or.inr ⟨m1889, tg1889, ln1889, F1889, x1889, rfl, rfl, Ex_t hX1866 hx1889, hC1889, Fq_t (ln := ln) (ln1 := ln1837) hM1861 hX1866 hM1889 (by decide) (Or.inl rfl), (And.intro ho1889 ht1889).1, (And.intro ho1889 ht1889).2, by omega, by omega, by omega, by omega, c1894, c1896, trivial⟩
          have hM1899 : Fq 0 [(7, 15), (9, 2), (9, 3), (10, 0), (10, 1), (10, 2), (10, 7), (10, 8), (10, 9), (11, 8), (11, 12), (11, 13), (11, 14), (11, 15), (11, 16), (11, 17), (11, 18), (24, -5), (26, -5)] m tg F F1874 := Fq_t (ln := ln) (ln1 := ln1837) hM1861 hX1866 hM1877 (by decide) (Or.inl rfl)
          have lm1900 := hx1875.1
          have ho1901 : own m1873 (me) ∧ tg1873 (me) = 9 := Ex_o hx1875 ⟨ho1863.1, ho1863.2⟩
          have ho1902 : own m1873 (sc) ∧ tg1873 (sc) = 11 := Ex_o hx1875 ⟨ho1864.1, ho1864.2⟩
          have ho1903 : own m1873 (pg) ∧ tg1873 (pg) = 10 := Ex_o hx1875 ⟨ho1865.1, ho1865.2⟩
          have hX1904 := Ex_t hX1866 hx1875
          have c1905 : NM m m1873 tg1873 := NM_t c1867 hx1875 c1888
          have c1906 : CR m1873 tg1873 F1874 (F pg (3 : Int)) (cr) := CR_x c1868 hx1875 hM1877 rfl
          refine Or.inl ⟨rfl, ?_⟩
          refine jx_ar (pc_q := 68) (st_q := [.int (i32 (0))]) rfl rfl rfl rfl ?_
          refine jx_ld (pc_q := 69) (l_q := jSto1 L 1 (.int (i32 (0)))) (st_q := []) rfl rfl ?_
          obtain ⟨L1907, eL1907⟩ : ∃ q : jL, q = jSto1 L 1 (.int (i32 (0))) := ⟨_, rfl⟩
          rw [← eL1907]
          have g1908 : jGet L1907 0 = some (rv (me)) := eL1907 ▸ jg_nr (by decide) gL_0
          have g1909 : jGet L1907 1 = some (.int (i32 (0))) := eL1907 ▸ jg_eq
          clear eL1907
          have q1910 : F1874 (sc) (8 : Int) = F1838 (sc) (8 : Int) := (show F1874 (sc) (8 : Int) = F1838 (sc) (8 : Int) from hM1877 _ _ ho1864.1 (own_z ho1864.1) (by rw [ho1864.2]; rfl))
          have q1911 : F1874 (sc) (15 : Int) = F1838 (sc) (15 : Int) := (show F1874 (sc) (15 : Int) = F1838 (sc) (15 : Int) from hM1877 _ _ ho1864.1 (own_z ho1864.1) (by rw [ho1864.2]; rfl))
          have q1912 : tz (F1874 (sc) (15 : Int)) = tz (F1838 (sc) (15 : Int)) := by rw [q1911]
          have q1913 := tz_b (F1838 (sc) (15 : Int))
          have q1914 : F1874 (sc) (14 : Int) = F1838 (sc) (14 : Int) := (show F1874 (sc) (14 : Int) = F1838 (sc) (14 : Int) from hM1877 _ _ ho1864.1 (own_z ho1864.1) (by rw [ho1864.2]; rfl))
          have q1915 : lz (F1874 (sc) (14 : Int)) = lz (F1838 (sc) (14 : Int)) := by rw [q1914]
          have q1916 := lz_b (F1838 (sc) (14 : Int))
          have q1917 : F1874 (pg) (9 : Int) = Fx (pg) (9 : Int) := ((show F1874 (pg) (9 : Int) = F1838 (pg) (9 : Int) from hM1877 _ _ ho1865.1 (own_z ho1865.1) (by rw [ho1865.2]; rfl)).trans q1872)
          exact k_LParser_readPlaced_at_69 (X := X) (d := d) (R := R) (m := m) (tg := tg) (ln := ln) (F := F) (cr := cr) (me := me) (hd := hd) (hC := hC) (sc := sc) (pg := pg) (o_sc := o_sc) (t_sc := t_sc) (e_sc := e_sc) (o_pg := o_pg) (t_pg := t_pg) (e_pg := e_pg) (o_me := o_me) (t_me := t_me) (p_0 := p_0) (p_1 := p_1) (c_NP := c_NP) (c_CR := c_CR) _ L1907 m1873 tg1873 ln1873 F1874 (0) rfl g1908 g1909 hX1904 hC1876 hM1899 (by omega) (by omega) (by omega) (by omega) (by omega) (by omega) (by omega) (by omega) (by omega) (by omega) c1887 c1905 (CR_m c1906 (by omega))
        · have _q := h1717
          have t1918 : tz (Fx (sc) (15 : Int)) = 1 := tz_p (by omega)
          refine jx_ld (pc_q := 32) (l_q := L) (st_q := [rv (me)]) rfl (jl_rvn gL_0) ?_
          have q1919 := tz_b (Fx (sc) (15 : Int))
          have q1920 : Fx (sc) (7 : Int) = F (sc) (7 : Int) := (show Fx (sc) (7 : Int) = F (sc) (7 : Int) from hMx _ _ o_sc (own_z o_sc) (by rw [t_sc]; rfl))
          have q1921 := lz_b (Fx (sc) (14 : Int))
          refine cx_vi (c := 8) (a := me) (st := []) (as := []) rfl rfl rfl ho1308.1 ho1308.2 (by decide) rfl ⟨rfl, rfl, (Nat.le_of_ble_eq_true rfl)⟩ rfl (k_LParser_readLink (dd := d) (R := R) (m := mx) (tg := tgx) (ln := lnx) (F := Fx) (me := me) (hd := by omega) (hC := hCx) (o_me := ho1308.1) (t_me := ho1308.2) (sc := sc) (pg := pg) (o_sc := ho1309.1) (t_sc := ho1309.2) (e_sc := ((show Fx (me) (1 : Int) = F (me) (1 : Int) from hMx _ _ o_me (own_z o_me) (by rw [t_me]; rfl)).trans e_sc)) (o_pg := ho1310.1) (t_pg := ho1310.2) (e_pg := ((show Fx (me) (0 : Int) = F (me) (0 : Int) from hMx _ _ o_me (own_z o_me) (by rw [t_me]; rfl)).trans e_pg)) (p_0 := by omega) (p_1 := by omega) (p_2 := by omega) (p_3 := by omega) (c_NP := cx_NP)) (fun o V_q hq => ?_)
          obtain ⟨m1922, tg1922, ln1922, F1923, rfl, rfl, hx1924, hC1925, hM1926, p1927, p1928, p1929, p1930, p1931, p1932, c1933, c1934, -⟩ | ⟨m1935, tg1935, ln1935, F1935, x1935, rfl, rfl, hx1935, hC1935, hM1935, ho1935, ht1935, p1936, p1937, p1938, p1939, c1940, c1941, -⟩ := hq
          rotate_left
          ·
            have c1942 : NM m m1935 tg1935 := NM_t cx_NM hx1935 c1941
            have lm1943 := hx1935.1
            refine Or.inr (Or.inr (Or.inr ⟨_, _, rfl, cx_exc (c := 15) ho1935 ht1935 (by decide), rfl, ?_⟩))
            have q1944 : Fx (sc) (7 : Int) = F (sc) (7 : Int) := (show Fx (sc) (7 : Int) = F (sc) (7 : Int) from hMx _ _ o_sc (own_z o_sc) (by rw [t_sc]; rfl))
            exact Or.inr ⟨m1935, tg1935, ln1935, F1935, x1935, rfl, rfl, Ex_t hXx hx1935, hC1935, Fq_t (ln := ln) (ln1 := lnx) hMx hXx hM1935 (by decide) (Or.inl rfl), (And.intro ho1935 ht1935).1, (And.intro ho1935 ht1935).2, by omega, by omega, by omega, by omega, c1940, c1942, trivial⟩
          have hM1945 : Fq 0 [(7, 15), (9, 2), (9, 3), (10, 0), (10, 1), (10, 2), (10, 7), (10, 8), (10, 9), (11, 8), (11, 12), (11, 13), (11, 14), (11, 15), (11, 16), (11, 17), (11, 18), (24, -5), (26, -5)] m tg F F1923 := Fq_t (ln := ln) (ln1 := lnx) hMx hXx hM1926 (by decide) (Or.inl rfl)
          have lm1946 := hx1924.1
          have ho1947 : own m1922 (me) ∧ tg1922 (me) = 9 := Ex_o hx1924 ⟨ho1308.1, ho1308.2⟩
          have ho1948 : own m1922 (sc) ∧ tg1922 (sc) = 11 := Ex_o hx1924 ⟨ho1309.1, ho1309.2⟩
          have ho1949 : own m1922 (pg) ∧ tg1922 (pg) = 10 := Ex_o hx1924 ⟨ho1310.1, ho1310.2⟩
          have hX1950 := Ex_t hXx hx1924
          have c1951 : NM m m1922 tg1922 := NM_t cx_NM hx1924 c1934
          have c1952 : CR m1922 tg1922 F1923 (F pg (3 : Int)) (cr) := CR_x cx_CR hx1924 hM1926 rfl
          refine Or.inl ⟨rfl, ?_⟩
          refine jx_inc (pc_q := 38) (l_q := jSto1 L 1 (.int (i32 (k + (1))))) (x := k) rfl gL_1 (by decide) rfl rfl ?_
          obtain ⟨L1953, eL1953⟩ : ∃ q : jL, q = jSto1 L 1 (.int (i32 ((k + (1))))) := ⟨_, rfl⟩
          rw [← eL1953]
          have g1954 : jGet L1953 0 = some (rv (me)) := eL1953 ▸ jg_nr (by decide) gL_0
          have g1955 : jGet L1953 1 = some (.int (i32 ((k + (1))))) := eL1953 ▸ jg_eq
          clear eL1953
          refine jx_go (tg := 2) rfl rfl ?_
          have q1956 := tz_b (F1923 (sc) (15 : Int))
          have q1957 := lz_b (F1923 (sc) (14 : Int))
          have q1958 : F1923 (pg) (9 : Int) = Fx (pg) (9 : Int) := (show F1923 (pg) (9 : Int) = Fx (pg) (9 : Int) from hM1926 _ _ ho1310.1 (own_z ho1310.1) (by rw [ho1310.2]; rfl))
          exact ih _ (by omega) L1953 m1922 tg1922 ln1922 F1923 ((k + (1))) rfl g1954 g1955 hX1950 hC1925 hM1945 (by omega) (by omega) (by omega) (by omega) (by omega) (by omega) (by omega) (by omega) (by omega) c1933 c1951 (CR_m c1952 (by omega))
set_option maxRecDepth 20000 in
set_option maxHeartbeats 4000000 in
theorem k_LParser_readPlaced {X : jX} {dd : Nat} {R : Nat → jC} {m : Nat} {tg ln : Int → Int} {F : Int → Int → Int} {cr : Int} {me : Int} (hd : 202 ≤ dd) (hC : HC 0 m tg ln F) {sc pg : Int} (o_sc : own m sc) (t_sc : tg sc = 11) (e_sc : F me (1 : Int) = sc) (o_pg : own m pg) (t_pg : tg pg = 10) (e_pg : F me (0 : Int) = pg) (o_me : own m me) (t_me : tg me = 9) (p_0 : F sc (8 : Int) + 2 * tz (F sc (15 : Int)) ≤ F sc (7 : Int) + 1) (p_1 : F sc (8 : Int) + 2 * lz (F sc (14 : Int)) ≤ F sc (7 : Int) + 1) (c_NP : NP m tg F) (c_CR : CR m tg F (F pg (3 : Int)) (cr)) : wk X dd 175 [rv me] (cV R m tg ln F) (fun o V_q => (∃ (m_q : Nat) (tg_q ln_q : Int → Int) (F_q : Int → Int → Int), V_q = cV R m_q tg_q ln_q F_q ∧ o = .inl none ∧ Ex m tg ln m_q tg_q ln_q ∧ HC 0 m_q tg_q ln_q F_q ∧ Fq 0 [(7, 15), (9, 2), (9, 3), (10, 0), (10, 1), (10, 2), (10, 7), (10, 8), (10, 9), (11, 8), (11, 12), (11, 13), (11, 14), (11, 15), (11, 16), (11, 17), (11, 18), (24, -5), (26, -5)] m tg F F_q ∧ (F_q sc (8 : Int) + 2 * tz (F_q sc (15 : Int)) ≤ F sc (7 : Int) + 1) ∧ (F_q sc (8 : Int) + 2 * lz (F_q sc (14 : Int)) ≤ F sc (7 : Int) + 1) ∧ (F sc (8 : Int) ≤ F_q sc (8 : Int)) ∧ (szD m_q tg_q ln_q = szD m tg ln + 25 * ((m_q : Int) - (m : Int))) ∧ ((m_q : Int) ≤ (m : Int) + (F_q sc (8 : Int) - F sc (8 : Int)) + (0)) ∧ (F_q pg (9 : Int) ≤ F pg (9 : Int) + ((m_q : Int) - (m : Int))) ∧ (NP m_q tg_q F_q) ∧ (NM m m_q tg_q) ∧ (CR m_q tg_q F_q (F pg (3 : Int)) (cr + (F_q sc (8 : Int) - F sc (8 : Int) - 3) / 4)) ∧ True) ∨ (∃ (m_q : Nat) (tg_q ln_q : Int → Int) (F_q : Int → Int → Int) (x : Nat), V_q = cV R m_q tg_q ln_q F_q ∧ o = .inr x ∧ Ex m tg ln m_q tg_q ln_q ∧ HC 0 m_q tg_q ln_q F_q ∧ Fq 0 [(7, 15), (9, 2), (9, 3), (10, 0), (10, 1), (10, 2), (10, 7), (10, 8), (10, 9), (11, 8), (11, 12), (11, 13), (11, 14), (11, 15), (11, 16), (11, 17), (11, 18), (24, -5), (26, -5)] m tg F F_q ∧ (own m_q (x : Int)) ∧ (tg_q (x : Int) = 16) ∧ (F_q pg (0 : Int) ≠ 0) ∧ (szD m_q tg_q ln_q = szD m tg ln + 25 * ((m_q : Int) - (m : Int))) ∧ ((m_q : Int) ≤ (m : Int) + (F_q sc (8 : Int) - F sc (8 : Int)) + (3)) ∧ (F_q sc (8 : Int) ≤ F sc (7 : Int) + 1) ∧ (NP m_q tg_q F_q) ∧ (NM m m_q tg_q) ∧ True)) := by
  obtain ⟨d, rfl⟩ : ∃ d, dd = d + 1 := ⟨dd - 1, by omega⟩
  refine wk_of (e := jm175) rfl (by rw [jS_r, jS_0]; exact Nat.le_of_ble_eq_true rfl) ?_
  rw [la_r, la_0]
  show wj X d jm175 (0, [(0, rv (me))], [], cV R m tg ln F) _
  have hM0 : Fq 0 [(7, 15), (9, 2), (9, 3), (10, 0), (10, 1), (10, 2), (10, 7), (10, 8), (10, 9), (11, 8), (11, 12), (11, 13), (11, 14), (11, 15), (11, 16), (11, 17), (11, 18), (24, -5), (26, -5)] m tg F F := Fq_r
  have hX0 : Ex m tg ln m tg ln := Ex_r
  obtain ⟨L0, eL0⟩ : ∃ q : jL, q = [(0, rv (me))] := ⟨_, rfl⟩
  rw [← eL0]
  have g1959 : jGet L0 0 = some (rv (me)) := eL0 ▸ (rfl : jGet [(0, rv (me))] 0 = some (rv (me)))
  clear eL0
  have tb0 := tz_b (F sc (15 : Int))
  have lb0 := lz_b (F sc (14 : Int))
  have ob0 : (0 : Int) ≤ F me (3 : Int) ∧ F me (3 : Int) ≤ 8 := HC_i (c := 8) (q := 3) hC o_me t_me (by decide) rfl
  have tp0 : F me (2 : Int) < 64 + (m : Int) := by
    have z : F me (2 : Int) = 0 ∨ (own m (F me (2 : Int)) ∧ tg (F me (2 : Int)) = 7) := HC_r (c := 8) (q := 2) hC o_me t_me (by decide) rfl
    rcases z with w | w
    · omega
    · exact w.1.2.1
  refine jx_ar (pc_q := 1) (st_q := [.int (i32 (0))]) rfl rfl rfl rfl ?_
  refine jx_ld (pc_q := 2) (l_q := jSto1 L0 1 (.int (i32 (0)))) (st_q := []) rfl rfl ?_
  obtain ⟨L1960, eL1960⟩ : ∃ q : jL, q = jSto1 L0 1 (.int (i32 (0))) := ⟨_, rfl⟩
  rw [← eL1960]
  have g1961 : jGet L1960 0 = some (rv (me)) := eL1960 ▸ jg_nr (by decide) g1959
  have g1962 : jGet L1960 1 = some (.int (i32 (0))) := eL1960 ▸ jg_eq
  clear eL1960
  have q1963 := tz_b (F (sc) (15 : Int))
  have q1964 := lz_b (F (sc) (14 : Int))
  exact k_LParser_readPlaced_at_2 (X := X) (d := d) (R := R) (m := m) (tg := tg) (ln := ln) (F := F) (cr := cr) (me := me) (hd := hd) (hC := hC) (sc := sc) (pg := pg) (o_sc := o_sc) (t_sc := t_sc) (e_sc := e_sc) (o_pg := o_pg) (t_pg := t_pg) (e_pg := e_pg) (o_me := o_me) (t_me := t_me) (p_0 := p_0) (p_1 := p_1) (c_NP := c_NP) (c_CR := c_CR) _ L1960 m tg ln F (0) rfl g1961 g1962 hX0 hC hM0 (by omega) (by omega) (by omega) (by omega) (by omega) (by omega) (by omega) (by omega) (by omega) c_NP NM_0 (CR_m c_CR (by omega))
set_option maxRecDepth 20000 in
set_option maxHeartbeats 4000000 in
theorem k_LScanner_keyOf_at_4 {X : jX} {d : Nat} {R : Nat → jC} {m : Nat} {tg ln : Int → Int} {F : Int → Int → Int} {st : Nat} {st_s : List Char} (q_st : jTx st = some st_s) (l_st : st < 31) (n_st : st_s.length ≤ 1000) (hd : 1 ≤ d + 1) (hC : HC 0 m tg ln F) (p_0 : ∀ c ∈ st_s, c.toNat < 128) : ∀ (mm : Nat) (L : jL) (k : Int) (sm : Int64), ((st_s.length : Int) - k).toNat = mm → jGet L 0 = some (.ref st) → jGet L 3 = some (.int (i32 k)) → jGet L 1 = some (.long sm) → ((-2147483648 : Int) ≤ k ∧ k ≤ 2147483647) → (0 ≤ k) → wj X d jm220 (4, L, [], cV R m tg ln F) (fun o V_q => ∃ (r : Int64), V_q = cV R m tg ln F ∧ o = .inl (some (.long r)) ∧ True) := by
  intro mm
  induction mm using Nat.strongRecOn with
  | ind mm ih =>
    intro L k sm hmm gL_0 gL_3 gL_1 rx_k iv_0
    refine jx_ld (pc_q := 5) (l_q := L) (st_q := [.int (i32 (k))]) rfl (jl_iloadn gL_3) ?_
    refine jx_ld (pc_q := 6) (l_q := L) (st_q := [.ref st, .int (i32 (k))]) rfl (jl_aloadn gL_0) ?_
    refine jx_sl (pc_q := 9) (n := (st_s.length : Int)) rfl rfl q_st ⟨(by rw [jS_i, jS_0]; exact Nat.le_of_ble_eq_true rfl), l_st⟩ rfl rfl ?_
    refine jx_icmp_ge (pc_q := 12) (tg := 36) rfl rfl rfl (by omega) (by omega) (by omega) (by omega) (fun h1 => ?_) (fun h1 => ?_)
    · have _q := h1
      refine jx_ld (pc_q := 37) (l_q := L) (st_q := [.long (sm)]) rfl (jl_lloadn gL_1) ?_
      refine jx_rt (v := some (.long (sm))) rfl rfl rfl rfl rfl rfl ?_
      exact ⟨(sm), rfl, rfl, trivial⟩
    · have _q := h1
      refine jx_ld (pc_q := 13) (l_q := L) (st_q := [.long (sm)]) rfl (jl_lloadn gL_1) ?_
      refine jx_hp (pc_q := 16) (st_q := [.long (64), .long (sm)]) rfl rfl rfl rfl rfl rfl ?_
      refine jx_ar (pc_q := 17) (st_q := .long ((sm : Int64) * (64)) :: []) rfl rfl rfl rfl ?_
      obtain ⟨y2, ey2⟩ : ∃ q : Int64, q = (sm : Int64) * (64) := ⟨_, rfl⟩
      rw [← ey2]
      refine jx_hp (pc_q := 19) (st_q := [.ref 0, .long (y2)]) rfl rfl rfl rfl rfl rfl ?_
      refine jx_ld (pc_q := 20) (l_q := L) (st_q := [.ref st, .ref 0, .long (y2)]) rfl (jl_aloadn gL_0) ?_
      refine jx_ld (pc_q := 21) (l_q := L) (st_q := [.int (i32 (k)), .ref st, .ref 0, .long (y2)]) rfl (jl_iloadn gL_3) ?_
      refine jx_sc2 (pc_q := 24) (n := (st_s.length : Int)) rfl rfl q_st ⟨(by rw [jS_f, jS_l, jS_0]; exact Nat.le_of_ble_eq_true rfl), l_st⟩ rfl (by omega) (by omega) (by omega) rfl p_0 (fun r3 hr3 => ?_)
      refine jx_si (pc_q := 27) rfl rfl rfl ⟨(by rw [jS_l, jS_0]; exact Nat.le_of_ble_eq_true rfl), (by decide)⟩ (by omega) (by omega) rfl (fun r4 hr4 => ?_)
      refine jx_ar (pc_q := 28) (st_q := .long ((i32 (r4)).toInt64) :: [.long (y2)]) rfl rfl rfl rfl ?_
      obtain ⟨y5, ey5⟩ : ∃ q : Int64, q = (i32 (r4)).toInt64 := ⟨_, rfl⟩
      rw [← ey5]
      refine jx_ar (pc_q := 29) (st_q := .long ((y2 : Int64) + (y5)) :: []) rfl rfl rfl rfl ?_
      obtain ⟨y6, ey6⟩ : ∃ q : Int64, q = (y2 : Int64) + (y5) := ⟨_, rfl⟩
      rw [← ey6]
      refine jx_ld (pc_q := 30) (l_q := jSto2 L 1 (.long (y6))) (st_q := []) rfl rfl ?_
      obtain ⟨L7, eL7⟩ : ∃ q : jL, q = jSto2 L 1 (.long (y6)) := ⟨_, rfl⟩
      rw [← eL7]
      have g8 : jGet L7 0 = some (.ref st) := eL7 ▸ jg_ne2 (by decide) (by decide) gL_0 (Or.inl rfl)
      have g9 : jGet L7 3 = some (.int (i32 (k))) := eL7 ▸ jg_ne2 (by decide) (by decide) gL_3 (Or.inl rfl)
      have g10 : jGet L7 1 = some (.long (y6)) := eL7 ▸ jg_eq2
      clear eL7
      refine jx_inc (pc_q := 33) (l_q := jSto1 L7 3 (.int (i32 (k + (1))))) (x := k) rfl g9 (by decide) rfl rfl ?_
      obtain ⟨L11, eL11⟩ : ∃ q : jL, q = jSto1 L7 3 (.int (i32 ((k + (1))))) := ⟨_, rfl⟩
      rw [← eL11]
      have g12 : jGet L11 0 = some (.ref st) := eL11 ▸ jg_ne (by decide) g8 rfl
      have g13 : jGet L11 1 = some (.long (y6)) := eL11 ▸ jg_nel (by decide) g10 (by decide)
      have g14 : jGet L11 3 = some (.int (i32 ((k + (1))))) := eL11 ▸ jg_eq
      clear eL11
      refine jx_go (tg := 4) rfl rfl ?_
      exact ih _ (by omega) L11 ((k + (1))) (y6) rfl g12 g14 g13 (by omega) (by omega)
set_option maxRecDepth 20000 in
set_option maxHeartbeats 4000000 in
theorem k_LScanner_keyOf {X : jX} {dd : Nat} {R : Nat → jC} {m : Nat} {tg ln : Int → Int} {F : Int → Int → Int} {st : Nat} {st_s : List Char} (q_st : jTx st = some st_s) (l_st : st < 31) (n_st : st_s.length ≤ 1000) (hd : 1 ≤ dd) (hC : HC 0 m tg ln F) (p_0 : ∀ c ∈ st_s, c.toNat < 128) : wk X dd 220 [.ref st] (cV R m tg ln F) (fun o V_q => ∃ (r : Int64), V_q = cV R m tg ln F ∧ o = .inl (some (.long r)) ∧ True) := by
  obtain ⟨d, rfl⟩ : ∃ d, dd = d + 1 := ⟨dd - 1, by omega⟩
  refine wk_of (e := jm220) rfl (by rw [jS_f, jS_0]; exact Nat.le_of_ble_eq_true rfl) ?_
  rw [la_f, la_0]
  show wj X d jm220 (0, [(0, .ref st)], [], cV R m tg ln F) _
  obtain ⟨L0, eL0⟩ : ∃ q : jL, q = [(0, .ref st)] := ⟨_, rfl⟩
  rw [← eL0]
  have g15 : jGet L0 0 = some (.ref st) := eL0 ▸ (rfl : jGet [(0, .ref st)] 0 = some (.ref st))
  clear eL0
  refine jx_ar (pc_q := 1) (st_q := [.long (Int64.ofNat 0)]) rfl rfl rfl rfl ?_
  refine jx_ld (pc_q := 2) (l_q := jSto2 L0 1 (.long (Int64.ofNat 0))) (st_q := []) rfl rfl ?_
  obtain ⟨L16, eL16⟩ : ∃ q : jL, q = jSto2 L0 1 (.long (Int64.ofNat 0)) := ⟨_, rfl⟩
  rw [← eL16]
  have g17 : jGet L16 0 = some (.ref st) := eL16 ▸ jg_ne2 (by decide) (by decide) g15 (Or.inl rfl)
  have g18 : jGet L16 1 = some (.long (Int64.ofNat 0)) := eL16 ▸ jg_eq2
  clear eL16
  refine jx_ar (pc_q := 3) (st_q := [.int (i32 (0))]) rfl rfl rfl rfl ?_
  refine jx_ld (pc_q := 4) (l_q := jSto1 L16 3 (.int (i32 (0)))) (st_q := []) rfl rfl ?_
  obtain ⟨L19, eL19⟩ : ∃ q : jL, q = jSto1 L16 3 (.int (i32 (0))) := ⟨_, rfl⟩
  rw [← eL19]
  have g20 : jGet L19 0 = some (.ref st) := eL19 ▸ jg_ne (by decide) g17 rfl
  have g21 : jGet L19 1 = some (.long (Int64.ofNat 0)) := eL19 ▸ jg_nel (by decide) g18 (by decide)
  have g22 : jGet L19 3 = some (.int (i32 (0))) := eL19 ▸ jg_eq
  clear eL19
  exact k_LScanner_keyOf_at_4 (X := X) (d := d) (R := R) (m := m) (tg := tg) (ln := ln) (F := F) (st := st) (st_s := st_s) (q_st := q_st) (l_st := l_st) (n_st := n_st) (hd := hd) (hC := hC) (p_0 := p_0) _ L19 (0) (Int64.ofNat 0) rfl g20 g22 g21 (by omega) (by omega)
set_option maxRecDepth 20000 in
set_option maxHeartbeats 4000000 in
theorem k_LParser_showHost {X : jX} {dd : Nat} {R : Nat → jC} {m : Nat} {tg ln : Int → Int} {F : Int → Int → Int} {me ad : Int} {st : Nat} {st_s : List Char} (q_st : jTx st = some st_s) (l_st : st < 31) (n_st : st_s.length ≤ 1000) (hd : 10 ≤ dd) (hC : HC 0 m tg ln F) {sc pg : Int} (o_sc : own m sc) (t_sc : tg sc = 11) (e_sc : F me (1 : Int) = sc) (o_pg : own m pg) (t_pg : tg pg = 10) (e_pg : F me (0 : Int) = pg) (o_me : own m me) (t_me : tg me = 9) (h_ad : (-2147483648 : Int) ≤ ad ∧ ad ≤ 2147483647) (p_0 : ∀ c ∈ st_s, c.toNat < 128) (c_NP : NP m tg F) : wk X dd 161 [rv me, .ref st, .int (i32 ad)] (cV R m tg ln F) (fun o V_q => ∃ (m_q : Nat) (tg_q ln_q : Int → Int) (F_q : Int → Int → Int), V_q = cV R m_q tg_q ln_q F_q ∧ o = .inl none ∧ Ex m tg ln m_q tg_q ln_q ∧ HC 0 m_q tg_q ln_q F_q ∧ Fq 0 [(7, 15), (9, 2)] m tg F F_q ∧ (szD m_q tg_q ln_q = szD m tg ln + 25 * ((m_q : Int) - (m : Int))) ∧ ((m_q : Int) = (m : Int) + 1) ∧ (NP m_q tg_q F_q) ∧ (NM m m_q tg_q) ∧ True) := by
  obtain ⟨d, rfl⟩ : ∃ d, dd = d + 1 := ⟨dd - 1, by omega⟩
  refine wk_of (e := jm161) rfl (by rw [jS_r, jS_f, jS_i, jS_0]; exact Nat.le_of_ble_eq_true rfl) ?_
  rw [la_r, la_f, la_i, la_0]
  show wj X d jm161 (0, [(0, rv (me)), (1, .ref st), (2, .int (i32 (ad)))], [], cV R m tg ln F) _
  have hM0 : Fq 0 [(7, 15), (9, 2)] m tg F F := Fq_r
  have hX0 : Ex m tg ln m tg ln := Ex_r
  obtain ⟨L0, eL0⟩ : ∃ q : jL, q = [(0, rv (me)), (1, .ref st), (2, .int (i32 (ad)))] := ⟨_, rfl⟩
  rw [← eL0]
  have g1 : jGet L0 0 = some (rv (me)) := eL0 ▸ (rfl : jGet [(0, rv (me)), (1, .ref st), (2, .int (i32 (ad)))] 0 = some (rv (me)))
  have g2 : jGet L0 1 = some (.ref st) := eL0 ▸ (rfl : jGet [(0, rv (me)), (1, .ref st), (2, .int (i32 (ad)))] 1 = some (.ref st))
  have g3 : jGet L0 2 = some (.int (i32 (ad))) := eL0 ▸ (rfl : jGet [(0, rv (me)), (1, .ref st), (2, .int (i32 (ad)))] 2 = some (.int (i32 (ad))))
  clear eL0
  have tb0 := tz_b (F sc (15 : Int))
  have lb0 := lz_b (F sc (14 : Int))
  have ob0 : (0 : Int) ≤ F me (3 : Int) ∧ F me (3 : Int) ≤ 8 := HC_i (c := 8) (q := 3) hC o_me t_me (by decide) rfl
  have tp0 : F me (2 : Int) < 64 + (m : Int) := by
    have z : F me (2 : Int) = 0 ∨ (own m (F me (2 : Int)) ∧ tg (F me (2 : Int)) = 7) := HC_r (c := 8) (q := 2) hC o_me t_me (by decide) rfl
    rcases z with w | w
    · omega
    · exact w.1.2.1
  refine cx_newp (pc_q := 3) (c := 6) rfl rfl (by decide) rfl rfl hC rfl (by decide) (fun n4 m4 tg4 ln4 F4 en4 em4 ho4 hx4 hC4 hf4 h04 hs4 => ?_)
  have ex4 : 64 + (m : Int) ≤ n4 := by have := hX0.1; omega
  have lm5 := hx4.1
  have ho6 : own m4 (me) ∧ tg4 (me) = 9 := Ex_o hx4 ⟨o_me, t_me⟩
  have ho7 : own m4 (sc) ∧ tg4 (sc) = 11 := Ex_o hx4 ⟨o_sc, t_sc⟩
  have ho8 : own m4 (pg) ∧ tg4 (pg) = 10 := Ex_o hx4 ⟨o_pg, t_pg⟩
  have hX9 := Ex_t hX0 hx4
  have hM10 : Fq 0 [(7, 15), (9, 2)] m tg F F4 := Fq_n hM0 hf4 ex4
  have c11 : NM m m4 tg4 := NM_n NM_0 hC.1 hx4 en4 em4 ho4.2 (by decide)
  refine jx_ar (pc_q := 4) (st_q := [rv (n4), rv (n4)]) rfl rfl ja_dup rfl ?_
  refine jx_ar (pc_q := 6) (st_q := [.int (i32 (10)), rv (n4), rv (n4)]) rfl rfl rfl rfl ?_
  refine jx_ld (pc_q := 7) (l_q := L0) (st_q := [.ref st, .int (i32 (10)), rv (n4), rv (n4)]) rfl (jl_aloadn g2) ?_
  refine cx_st (st := [.int (i32 (10)), rv (n4), rv (n4)]) (as := [.ref st]) rfl rfl rfl ⟨rfl, (by rw [jS_i, jS_r, jS_r, jS_0]; exact Nat.le_of_ble_eq_true rfl)⟩ rfl (k_LScanner_keyOf (dd := d) (R := R) (m := m4) (tg := tg4) (ln := ln4) (F := F4) (st := st) (st_s := _) (q_st := q_st) (l_st := l_st) (n_st := n_st) (hd := by omega) (hC := hC4) (p_0 := p_0)) (fun o V_q hq => ?_)
  obtain ⟨r12, rfl, rfl, -⟩ := hq
  refine Or.inr (Or.inl ⟨_, rfl, ?_⟩)
  refine jx_ar (pc_q := 11) (st_q := [.int (i32 (0)), .long (r12), .int (i32 (10)), rv (n4), rv (n4)]) rfl rfl rfl rfl ?_
  refine jx_ar (pc_q := 12) (st_q := [.int (i32 (1)), .int (i32 (0)), .long (r12), .int (i32 (10)), rv (n4), rv (n4)]) rfl rfl rfl rfl ?_
  refine cx_sp (kd := 2) (a := n4) (st := [rv (n4)]) (as := [.int (i32 (10)), .long (r12), .int (i32 (0)), .int (i32 (1))]) rfl rfl (by decide) rfl ho4.1.1 ⟨rfl, (by rw [jS_r, jS_0]; exact Nat.le_of_ble_eq_true rfl)⟩ rfl (k_LName_init (dd := d) (R := R) (m := m4) (tg := tg4) (ln := ln4) (F := F4) (me := n4) (kd := 10) (ky := r12) (nu := 0) (sz := 1) (hd := by omega) (hC := hC4) (o_me := ho4.1) (t_me := ho4.2) (h_kd := by omega) (h_nu := by omega) (h_sz := by omega) (z_me := h04)) (fun o V_q hq => ?_)
  obtain ⟨F13, rfl, rfl, hC14, hM15, p16, zp17, -⟩ := hq
  have hM18 : Fq 0 [(7, 15), (9, 2)] m tg F F13 := Fq_t (ln := ln) (ln1 := ln4) hM10 hX9 hM15 (by decide) (Or.inr (Or.inr ex4))
  have c19 : NP m4 tg4 F13 := NP_nn hC c_NP hx4 en4 em4 (fun b i ob => (hM15 b i (own_m ob hx4.1) (ne_n ob en4) rfl).trans (hf4 b i (ne_n ob en4))) (fun w => absurd (ho4.2.symm.trans w) (by decide)) (fun _ => ⟨(zp17 _ (by decide) (by decide) (by decide) (by decide)), (zp17 _ (by decide) (by decide) (by decide) (by decide)), (zp17 _ (by decide) (by decide) (by decide) (by decide))⟩) (fun w => absurd (ho4.2.symm.trans w) (by decide))
  refine Or.inl ⟨rfl, ?_⟩
  refine jx_ld (pc_q := 16) (l_q := jSto1 L0 3 (rv (n4))) (st_q := []) rfl (js_rvn (by decide)) ?_
  obtain ⟨L20, eL20⟩ : ∃ q : jL, q = jSto1 L0 3 (rv (n4)) := ⟨_, rfl⟩
  rw [← eL20]
  have g21 : jGet L20 0 = some (rv (me)) := eL20 ▸ jg_nr (by decide) g1
  have g22 : jGet L20 1 = some (.ref st) := eL20 ▸ jg_ne (by decide) g2 rfl
  have g23 : jGet L20 2 = some (.int (i32 (ad))) := eL20 ▸ jg_ne (by decide) g3 rfl
  have g24 : jGet L20 3 = some (rv (n4)) := eL20 ▸ jg_eq
  clear eL20
  refine jx_ld (pc_q := 17) (l_q := L20) (st_q := [rv (n4)]) rfl (jl_rvn g24) ?_
  refine jx_ld (pc_q := 18) (l_q := L20) (st_q := [.int (i32 (ad)), rv (n4)]) rfl (jl_iloadn g23) ?_
  refine cx_pi (pc_q := 21) (c := 6) (q := 5) (qi := (5 : Int)) (z := ad) rfl rfl (by decide) (by decide) rfl rfl rfl (by decide) rfl ho4.1 ho4.2 rfl ?_
  obtain ⟨F25, eF25⟩ : ∃ q, q = uF F13 (n4) (5 : Int) (ad) := ⟨_, rfl⟩
  rw [← eF25]
  have hC26 : HC 0 m4 tg4 ln4 F25 := by rw [eF25]; exact HC_fi (c := 6) (q := 5) hC14 ho4.2 (by decide) rfl (by omega) (by omega) ⟨fun w => absurd w (by decide), fun w => absurd w (by decide)⟩
  have hM27 : Fq 0 [(7, 15), (9, 2)] m tg F F25 := by rw [eF25]; exact Fq_x hM18 (Or.inr ex4)
  have c28 : NP m4 tg4 F25 := by rw [eF25]; exact NP_u hC14 c19 ho4.2 (by omega)
  refine jx_ld (pc_q := 22) (l_q := L20) (st_q := [rv (me)]) rfl (jl_rvn g21) ?_
  refine jx_ld (pc_q := 23) (l_q := L20) (st_q := [rv (n4), rv (me)]) rfl (jl_rvn g24) ?_
  have q29 : F25 (me) (2 : Int) = F (me) (2 : Int) := ((show F25 (me) (2 : Int) = F13 (me) (2 : Int) from by rw [eF25]; exact uF_j (by decide)).trans ((show F13 (me) (2 : Int) = F4 (me) (2 : Int) from hM15 _ _ ho6.1 (fun w => by have q1 := ho6.2; rw [w, ho4.2] at q1; exact absurd q1 (by decide)) (by rw [ho6.2]; rfl)).trans (show F4 (me) (2 : Int) = F (me) (2 : Int) from hf4 _ _ (ne_n o_me en4))))
  refine cx_vi (c := 8) (a := me) (st := []) (as := [rv (n4)]) rfl rfl rfl ho6.1 ho6.2 (by decide) rfl ⟨rfl, rfl, (Nat.le_of_ble_eq_true rfl)⟩ rfl (k_LParser_show (dd := d) (R := R) (m := m4) (tg := tg4) (ln := ln4) (F := F25) (me := me) (nm := n4) (hd := by omega) (hC := hC26) (o_me := ho6.1) (t_me := ho6.2) (o_nm := ho4.1) (t_nm := ho4.2) (sc := sc) (pg := pg) (o_sc := ho7.1) (t_sc := ho7.2) (e_sc := (((show F25 (me) (1 : Int) = F13 (me) (1 : Int) from by rw [eF25]; exact uF_j (by decide)).trans ((show F13 (me) (1 : Int) = F4 (me) (1 : Int) from hM15 _ _ ho6.1 (fun w => by have q1 := ho6.2; rw [w, ho4.2] at q1; exact absurd q1 (by decide)) (by rw [ho6.2]; rfl)).trans (show F4 (me) (1 : Int) = F (me) (1 : Int) from hf4 _ _ (ne_n o_me en4)))).trans e_sc)) (o_pg := ho8.1) (t_pg := ho8.2) (e_pg := (((show F25 (me) (0 : Int) = F13 (me) (0 : Int) from by rw [eF25]; exact uF_j (by decide)).trans ((show F13 (me) (0 : Int) = F4 (me) (0 : Int) from hM15 _ _ ho6.1 (fun w => by have q1 := ho6.2; rw [w, ho4.2] at q1; exact absurd q1 (by decide)) (by rw [ho6.2]; rfl)).trans (show F4 (me) (0 : Int) = F (me) (0 : Int) from hf4 _ _ (ne_n o_me en4)))).trans e_pg)) (p_0 := by omega) (c_NP := c28)) (fun o V_q hq => ?_)
  obtain ⟨F30, rfl, rfl, hC31, hM32, p33, c34, c35, -⟩ := hq
  have hM36 : Fq 0 [(7, 15), (9, 2)] m tg F F30 := Fq_t (ln := ln) (ln1 := ln4) hM27 hX9 hM32 (by decide) (Or.inl rfl)
  refine Or.inl ⟨rfl, ?_⟩
  refine jx_rt (v := none) rfl rfl rfl rfl rfl rfl ?_
  exact ⟨m4, tg4, ln4, F30, rfl, rfl, hX9, hC31, hM36, by omega, by omega, c34, c11, trivial⟩
