set_option maxRecDepth 20000 in
set_option maxHeartbeats 4000000 in
theorem k_LParser_readParameter {X : jX} {dd : Nat} {R : Nat → jC} {m : Nat} {tg ln : Int → Int} {F : Int → Int → Int} {me bf : Int} (hd : 30 ≤ dd) (hC : HC 0 m tg ln F) {sc pg : Int} (o_sc : own m sc) (t_sc : tg sc = 11) (e_sc : F me (1 : Int) = sc) (o_pg : own m pg) (t_pg : tg pg = 10) (e_pg : F me (0 : Int) = pg) (o_me : own m me) (t_me : tg me = 9) (y_bf : bf = 0 ∨ (own m bf ∧ tg bf = 7)) (p_0 : F sc (8 : Int) + 2 * tz (F sc (15 : Int)) ≤ F sc (7 : Int) + 1) (p_1 : F sc (8 : Int) + 2 * lz (F sc (14 : Int)) ≤ F sc (7 : Int) + 1) (p_2 : F sc (8 : Int) ≤ F sc (7 : Int)) (c_NP : NP m tg F) : wk X dd 174 [rv me, rv bf] (cV R m tg ln F) (fun o V_q => (∃ (m_q : Nat) (tg_q ln_q : Int → Int) (F_q : Int → Int → Int) (r : Int), V_q = cV R m_q tg_q ln_q F_q ∧ o = .inl (some (rv r)) ∧ Ex m tg ln m_q tg_q ln_q ∧ HC 0 m_q tg_q ln_q F_q ∧ Fq 0 [(7, 15), (9, 2), (10, 0), (10, 1), (10, 2), (10, 8), (11, 8), (11, 12), (11, 13), (11, 14), (11, 15), (11, 16), (11, 17), (11, 18)] m tg F F_q ∧ (own m_q r ∧ tg_q r = 7) ∧ (F_q sc (8 : Int) + 2 * tz (F_q sc (15 : Int)) ≤ F sc (7 : Int) + 1) ∧ (F_q sc (8 : Int) + 2 * lz (F_q sc (14 : Int)) ≤ F sc (7 : Int) + 1) ∧ (F_q sc (8 : Int) ≤ F sc (7 : Int)) ∧ (F sc (8 : Int) ≤ F_q sc (8 : Int)) ∧ (szD m_q tg_q ln_q = szD m tg ln + 25 * ((m_q : Int) - (m : Int))) ∧ ((m_q : Int) ≤ (m : Int) + (F_q sc (8 : Int) - F sc (8 : Int)) + (0)) ∧ (F_q pg (9 : Int) ≤ F pg (9 : Int) + ((m_q : Int) - (m : Int))) ∧ (64 + (m : Int) ≤ r) ∧ (F_q r (14 : Int) = 0) ∧ (NP m_q tg_q F_q) ∧ (NM m m_q tg_q) ∧ True) ∨ (∃ (m_q : Nat) (tg_q ln_q : Int → Int) (F_q : Int → Int → Int) (x : Nat), V_q = cV R m_q tg_q ln_q F_q ∧ o = .inr x ∧ Ex m tg ln m_q tg_q ln_q ∧ HC 0 m_q tg_q ln_q F_q ∧ Fq 0 [(7, 15), (9, 2), (10, 0), (10, 1), (10, 2), (10, 8), (11, 8), (11, 12), (11, 13), (11, 14), (11, 15), (11, 16), (11, 17), (11, 18)] m tg F F_q ∧ (own m_q (x : Int)) ∧ (tg_q (x : Int) = 16) ∧ (F_q pg (0 : Int) ≠ 0) ∧ (szD m_q tg_q ln_q = szD m tg ln + 25 * ((m_q : Int) - (m : Int))) ∧ ((m_q : Int) ≤ (m : Int) + (F_q sc (8 : Int) - F sc (8 : Int)) + (1)) ∧ (F_q sc (8 : Int) ≤ F sc (7 : Int) + 1) ∧ (NP m_q tg_q F_q) ∧ (NM m m_q tg_q) ∧ True)) := by
  obtain ⟨d, rfl⟩ : ∃ d, dd = d + 1 := ⟨dd - 1, by omega⟩
  refine wk_of (e := jm174) rfl (by rw [jS_r, jS_r, jS_0]; exact Nat.le_of_ble_eq_true rfl) ?_
  rw [la_r, la_r, la_0]
  show wj X d jm174 (0, [(0, rv (me)), (1, rv (bf))], [], cV R m tg ln F) _
  have hM0 : Fq 0 [(7, 15), (9, 2), (10, 0), (10, 1), (10, 2), (10, 8), (11, 8), (11, 12), (11, 13), (11, 14), (11, 15), (11, 16), (11, 17), (11, 18)] m tg F F := Fq_r
  have hX0 : Ex m tg ln m tg ln := Ex_r
  obtain ⟨L0, eL0⟩ : ∃ q : jL, q = [(0, rv (me)), (1, rv (bf))] := ⟨_, rfl⟩
  rw [← eL0]
  have g1 : jGet L0 0 = some (rv (me)) := eL0 ▸ (rfl : jGet [(0, rv (me)), (1, rv (bf))] 0 = some (rv (me)))
  have g2 : jGet L0 1 = some (rv (bf)) := eL0 ▸ (rfl : jGet [(0, rv (me)), (1, rv (bf))] 1 = some (rv (bf)))
  clear eL0
  have tb0 := tz_b (F sc (15 : Int))
  have lb0 := lz_b (F sc (14 : Int))
  have ob0 : (0 : Int) ≤ F me (3 : Int) ∧ F me (3 : Int) ≤ 8 := HC_i (c := 8) (q := 3) hC o_me t_me (by decide) rfl
  have tp0 : F me (2 : Int) < 64 + (m : Int) := by
    have z : F me (2 : Int) = 0 ∨ (own m (F me (2 : Int)) ∧ tg (F me (2 : Int)) = 7) := HC_r (c := 8) (q := 2) hC o_me t_me (by decide) rfl
    rcases z with w | w
    · omega
    · exact w.1.2.1
  refine jx_ar (pc_q := 1) (st_q := [.int (i32 (2))]) rfl rfl rfl rfl ?_
  refine jx_ld (pc_q := 2) (l_q := jSto1 L0 2 (.int (i32 (2)))) (st_q := []) rfl rfl ?_
  obtain ⟨L3, eL3⟩ : ∃ q : jL, q = jSto1 L0 2 (.int (i32 (2))) := ⟨_, rfl⟩
  rw [← eL3]
  have g4 : jGet L3 0 = some (rv (me)) := eL3 ▸ jg_nr (by decide) g1
  have g5 : jGet L3 1 = some (rv (bf)) := eL3 ▸ jg_nr (by decide) g2
  have g6 : jGet L3 2 = some (.int (i32 (2))) := eL3 ▸ jg_eq
  clear eL3
  refine jx_ar (pc_q := 3) (st_q := [.int (i32 (1))]) rfl rfl rfl rfl ?_
  refine jx_ld (pc_q := 4) (l_q := jSto1 L3 3 (.int (i32 (1)))) (st_q := []) rfl rfl ?_
  obtain ⟨L7, eL7⟩ : ∃ q : jL, q = jSto1 L3 3 (.int (i32 (1))) := ⟨_, rfl⟩
  rw [← eL7]
  have g8 : jGet L7 0 = some (rv (me)) := eL7 ▸ jg_nr (by decide) g4
  have g9 : jGet L7 1 = some (rv (bf)) := eL7 ▸ jg_nr (by decide) g5
  have g10 : jGet L7 2 = some (.int (i32 (2))) := eL7 ▸ jg_ne (by decide) g6 rfl
  have g11 : jGet L7 3 = some (.int (i32 (1))) := eL7 ▸ jg_eq
  clear eL7
  refine jx_ld (pc_q := 5) (l_q := L7) (st_q := [rv (me)]) rfl (jl_rvn g8) ?_
  refine cx_gr (pc_q := 8) (c := 8) (q := 1) (v := sc) rfl rfl (by decide) (by decide) rfl rfl o_me t_me e_sc ?_
  refine cx_gi (pc_q := 11) (c := 10) (q := 15) (v := F (sc) (15 : Int)) rfl rfl (by decide) (by decide) (Or.inl rfl) rfl o_sc t_sc rfl ?_
  have b12 : (-2147483648 : Int) ≤ F (sc) (15 : Int) ∧ F (sc) (15 : Int) ≤ 2147483647 := by have z := HC_i (c := 10) (q := 15) hC o_sc t_sc (by decide) rfl; rw [show F (sc) ((15 : Nat) : Int) = F (sc) (15 : Int) from rfl] at z; exact z
  refine jx_ar (pc_q := 13) (st_q := [.int (i32 (19)), .int (i32 (F (sc) (15 : Int)))]) rfl rfl rfl rfl ?_
  refine jx_icmp_ne (pc_q := 16) (tg := 22) rfl rfl rfl (by omega) (by omega) (by decide) (by decide) (fun h13 => ?_) (fun h13 => ?_)
  · have _q := h13
    refine jx_ld (pc_q := 23) (l_q := L7) (st_q := [rv (me)]) rfl (jl_rvn g8) ?_
    refine cx_gr (pc_q := 26) (c := 8) (q := 1) (v := sc) rfl rfl (by decide) (by decide) rfl rfl o_me t_me e_sc ?_
    refine cx_gi (pc_q := 29) (c := 10) (q := 15) (v := F (sc) (15 : Int)) rfl rfl (by decide) (by decide) (Or.inl rfl) rfl o_sc t_sc rfl ?_
    refine jx_ar (pc_q := 31) (st_q := [.int (i32 (20)), .int (i32 (F (sc) (15 : Int)))]) rfl rfl rfl rfl ?_
    refine jx_icmp_ne (pc_q := 34) (tg := 46) rfl rfl rfl (by omega) (by omega) (by decide) (by decide) (fun h14 => ?_) (fun h14 => ?_)
    · have _q := h14
      refine jx_ld (pc_q := 47) (l_q := L7) (st_q := [rv (me)]) rfl (jl_rvn g8) ?_
      refine cx_gr (pc_q := 50) (c := 8) (q := 1) (v := sc) rfl rfl (by decide) (by decide) rfl rfl o_me t_me e_sc ?_
      refine cx_gi (pc_q := 53) (c := 10) (q := 15) (v := F (sc) (15 : Int)) rfl rfl (by decide) (by decide) (Or.inl rfl) rfl o_sc t_sc rfl ?_
      refine jx_ar (pc_q := 55) (st_q := [.int (i32 (56)), .int (i32 (F (sc) (15 : Int)))]) rfl rfl rfl rfl ?_
      refine jx_icmp_ne (pc_q := 58) (tg := 82) rfl rfl rfl (by omega) (by omega) (by decide) (by decide) (fun h15 => ?_) (fun h15 => ?_)
      · have _q := h15
        refine jx_ld (pc_q := 83) (l_q := L7) (st_q := [rv (me)]) rfl (jl_rvn g8) ?_
        refine jx_ld (pc_q := 84) (l_q := L7) (st_q := [.int (i32 (2)), rv (me)]) rfl (jl_iloadn g10) ?_
        refine jx_ar (pc_q := 86) (st_q := [.int (i32 (8)), .int (i32 (2)), rv (me)]) rfl rfl rfl rfl ?_
        refine jx_icmp_ne (pc_q := 89) (tg := 94) rfl rfl rfl (by decide) (by decide) (by decide) (by decide) (fun h16 => ?_) (fun h16 => ?_)
        · have _q := h16
          refine jx_ar (pc_q := 96) (st_q := [.int (i32 (18)), rv (me)]) rfl rfl rfl rfl ?_
          have q17 := tz_b (F (sc) (15 : Int))
          have q18 := lz_b (F (sc) (14 : Int))
          refine cx_vi (c := 8) (a := me) (st := []) (as := [.int (i32 (18))]) rfl rfl rfl o_me t_me (by decide) rfl ⟨rfl, rfl, (Nat.le_of_ble_eq_true rfl)⟩ rfl (k_LParser_expect (dd := d) (R := R) (m := m) (tg := tg) (ln := ln) (F := F) (me := me) (tk := 18) (hd := by omega) (hC := hC) (o_me := o_me) (t_me := t_me) (h_tk := by omega) (sc := sc) (pg := pg) (o_sc := o_sc) (t_sc := t_sc) (e_sc := e_sc) (o_pg := o_pg) (t_pg := t_pg) (e_pg := e_pg) (p_0 := by omega) (p_1 := by omega) (p_2 := by omega) (p_3 := by omega) (c_NP := c_NP)) (fun o V_q hq => ?_)
          obtain ⟨m19, tg19, ln19, F20, rfl, rfl, hx21, hC22, hM23, p24, p25, p26, p27, p28, p29, p30, c31, c32, -⟩ | ⟨m33, tg33, ln33, F33, x33, rfl, rfl, hx33, hC33, hM33, ho33, ht33, p34, p35, p36, p37, c38, c39, -⟩ := hq
          rotate_left
          ·
            have c40 : NM m m33 tg33 := NM_t NM_0 hx33 c39
            have lm41 := hx33.1
            refine Or.inr (Or.inr (Or.inr ⟨_, _, rfl, cx_exc (c := 15) ho33 ht33 (by decide), rfl, ?_⟩))
            exact Or.inr ⟨m33, tg33, ln33, F33, x33, rfl, rfl, Ex_t hX0 hx33, hC33, Fq_t (ln := ln) (ln1 := ln) hM0 hX0 hM33 (by decide) (Or.inl rfl), (And.intro ho33 ht33).1, (And.intro ho33 ht33).2, by omega, by omega, by omega, by omega, c38, c40, trivial⟩
          have hM42 : Fq 0 [(7, 15), (9, 2), (10, 0), (10, 1), (10, 2), (10, 8), (11, 8), (11, 12), (11, 13), (11, 14), (11, 15), (11, 16), (11, 17), (11, 18)] m tg F F20 := Fq_t (ln := ln) (ln1 := ln) hM0 hX0 hM23 (by decide) (Or.inl rfl)
          have lm43 := hx21.1
          have lt44 : bf < 64 + (m : Int) := by rcases y_bf with w | w; (· omega); exact w.1.2.1
          have ho45 : own m19 (me) ∧ tg19 (me) = 9 := Ex_o hx21 ⟨o_me, t_me⟩
          have y46 : bf = 0 ∨ (own m19 (bf) ∧ tg19 (bf) = 7) := Ex_z hx21 y_bf
          have ho47 : own m19 (sc) ∧ tg19 (sc) = 11 := Ex_o hx21 ⟨o_sc, t_sc⟩
          have ho48 : own m19 (pg) ∧ tg19 (pg) = 10 := Ex_o hx21 ⟨o_pg, t_pg⟩
          have hX49 := Ex_t hX0 hx21
          have c50 : NM m m19 tg19 := NM_t NM_0 hx21 c32
          refine Or.inl ⟨rfl, ?_⟩
          refine jx_ld (pc_q := 100) (l_q := L7) (st_q := [rv (me)]) rfl (jl_rvn g8) ?_
          refine jx_ld (pc_q := 101) (l_q := L7) (st_q := [.int (i32 (2)), rv (me)]) rfl (jl_iloadn g10) ?_
          refine jx_ld (pc_q := 102) (l_q := L7) (st_q := [.int (i32 (1)), .int (i32 (2)), rv (me)]) rfl (jl_iloadn g11) ?_
          refine jx_ld (pc_q := 103) (l_q := L7) (st_q := [rv (bf), .int (i32 (1)), .int (i32 (2)), rv (me)]) rfl (jl_rvn g9) ?_
          have q51 := tz_b (F20 (sc) (15 : Int))
          have q52 : F20 (sc) (7 : Int) = F (sc) (7 : Int) := (show F20 (sc) (7 : Int) = F (sc) (7 : Int) from hM23 _ _ o_sc (own_z o_sc) (by rw [t_sc]; rfl))
          have q53 := lz_b (F20 (sc) (14 : Int))
          have q54 : F20 (pg) (9 : Int) = F (pg) (9 : Int) := (show F20 (pg) (9 : Int) = F (pg) (9 : Int) from hM23 _ _ o_pg (own_z o_pg) (by rw [t_pg]; rfl))
          have q55 : F20 (me) (2 : Int) = F (me) (2 : Int) := (show F20 (me) (2 : Int) = F (me) (2 : Int) from hM23 _ _ o_me (own_z o_me) (by rw [t_me]; rfl))
          refine cx_vi (c := 8) (a := me) (st := []) (as := [.int (i32 (2)), .int (i32 (1)), rv (bf)]) rfl rfl rfl ho45.1 ho45.2 (by decide) rfl ⟨rfl, rfl, (Nat.le_of_ble_eq_true rfl)⟩ rfl (k_LParser_fresh (dd := d) (R := R) (m := m19) (tg := tg19) (ln := ln19) (F := F20) (me := me) (kd := 2) (sz := 1) (si := bf) (hd := by omega) (hC := hC22) (o_me := ho45.1) (t_me := ho45.2) (h_kd := by omega) (h_sz := by omega) (y_si := y46) (sc := sc) (pg := pg) (o_sc := ho47.1) (t_sc := ho47.2) (e_sc := ((show F20 (me) (1 : Int) = F (me) (1 : Int) from hM23 _ _ o_me (own_z o_me) (by rw [t_me]; rfl)).trans e_sc)) (o_pg := ho48.1) (t_pg := ho48.2) (e_pg := ((show F20 (me) (0 : Int) = F (me) (0 : Int) from hM23 _ _ o_me (own_z o_me) (by rw [t_me]; rfl)).trans e_pg)) (p_0 := by omega) (p_1 := by omega) (p_2 := by omega) (c_NP := c31)) (fun o V_q hq => ?_)
          obtain ⟨m56, tg56, ln56, F57, r58, rfl, rfl, hx59, hC60, hM61, b62, p63, p64, p65, p66, p67, p68, p69, p70, p71, p72, p73, p74, p75, p76, c77, c78, -⟩ | ⟨m79, tg79, ln79, F79, x79, rfl, rfl, hx79, hC79, hM79, ho79, ht79, p80, p81, p82, p83, c84, c85, -⟩ := hq
          rotate_left
          ·
            have c86 : NM m m79 tg79 := NM_t c50 hx79 c85
            have lm87 := hx79.1
            refine Or.inr (Or.inr (Or.inr ⟨_, _, rfl, cx_exc (c := 15) ho79 ht79 (by decide), rfl, ?_⟩))
            have q88 : F20 (sc) (7 : Int) = F (sc) (7 : Int) := q52
            exact Or.inr ⟨m79, tg79, ln79, F79, x79, rfl, rfl, Ex_t hX49 hx79, hC79, Fq_t (ln := ln) (ln1 := ln19) hM42 hX49 hM79 (by decide) (Or.inl rfl), (And.intro ho79 ht79).1, (And.intro ho79 ht79).2, by omega, by omega, by omega, by omega, c84, c86, trivial⟩
          have hM89 : Fq 0 [(7, 15), (9, 2), (10, 0), (10, 1), (10, 2), (10, 8), (11, 8), (11, 12), (11, 13), (11, 14), (11, 15), (11, 16), (11, 17), (11, 18)] m tg F F57 := Fq_t (ln := ln) (ln1 := ln19) hM42 hX49 hM61 (by decide) (Or.inl rfl)
          have lm90 := hx59.1
          have lt91 : bf < 64 + (m19 : Int) := by rcases y46 with w | w; (· omega); exact w.1.2.1
          have ho92 : own m56 (me) ∧ tg56 (me) = 9 := Ex_o hx59 ⟨ho45.1, ho45.2⟩
          have y93 : bf = 0 ∨ (own m56 (bf) ∧ tg56 (bf) = 7) := Ex_z hx59 y46
          have ho94 : own m56 (sc) ∧ tg56 (sc) = 11 := Ex_o hx59 ⟨ho47.1, ho47.2⟩
          have ho95 : own m56 (pg) ∧ tg56 (pg) = 10 := Ex_o hx59 ⟨ho48.1, ho48.2⟩
          have hX96 := Ex_t hX49 hx59
          have c97 : NM m m56 tg56 := NM_t c50 hx59 c78
          refine Or.inr (Or.inl ⟨_, rfl, ?_⟩)
          refine jx_ld (pc_q := 108) (l_q := jSto1 L7 4 (rv (r58))) (st_q := []) rfl (js_rv (by decide)) ?_
          obtain ⟨L98, eL98⟩ : ∃ q : jL, q = jSto1 L7 4 (rv (r58)) := ⟨_, rfl⟩
          rw [← eL98]
          have g99 : jGet L98 0 = some (rv (me)) := eL98 ▸ jg_nr (by decide) g8
          have g100 : jGet L98 1 = some (rv (bf)) := eL98 ▸ jg_nr (by decide) g9
          have g101 : jGet L98 2 = some (.int (i32 (2))) := eL98 ▸ jg_ne (by decide) g10 rfl
          have g102 : jGet L98 3 = some (.int (i32 (1))) := eL98 ▸ jg_ne (by decide) g11 rfl
          have g103 : jGet L98 4 = some (rv (r58)) := eL98 ▸ jg_eq
          clear eL98
          refine jx_ld (pc_q := 109) (l_q := L98) (st_q := [rv (me)]) rfl (jl_rvn g99) ?_
          refine jx_ld (pc_q := 111) (l_q := L98) (st_q := [rv (r58), rv (me)]) rfl (jl_rv g103) ?_
          have q104 : F57 (me) (2 : Int) = F (me) (2 : Int) := ((show F57 (me) (2 : Int) = F20 (me) (2 : Int) from hM61 _ _ ho45.1 (own_z ho45.1) (by rw [ho45.2]; rfl)).trans q55)
          refine cx_vi (c := 8) (a := me) (st := []) (as := [rv (r58)]) rfl rfl rfl ho92.1 ho92.2 (by decide) rfl ⟨rfl, rfl, (Nat.le_of_ble_eq_true rfl)⟩ rfl (k_LParser_show (dd := d) (R := R) (m := m56) (tg := tg56) (ln := ln56) (F := F57) (me := me) (nm := r58) (hd := by omega) (hC := hC60) (o_me := ho92.1) (t_me := ho92.2) (o_nm := b62.1) (t_nm := b62.2) (sc := sc) (pg := pg) (o_sc := ho94.1) (t_sc := ho94.2) (e_sc := (((show F57 (me) (1 : Int) = F20 (me) (1 : Int) from hM61 _ _ ho45.1 (own_z ho45.1) (by rw [ho45.2]; rfl)).trans (show F20 (me) (1 : Int) = F (me) (1 : Int) from hM23 _ _ o_me (own_z o_me) (by rw [t_me]; rfl))).trans e_sc)) (o_pg := ho95.1) (t_pg := ho95.2) (e_pg := (((show F57 (me) (0 : Int) = F20 (me) (0 : Int) from hM61 _ _ ho45.1 (own_z ho45.1) (by rw [ho45.2]; rfl)).trans (show F20 (me) (0 : Int) = F (me) (0 : Int) from hM23 _ _ o_me (own_z o_me) (by rw [t_me]; rfl))).trans e_pg)) (p_0 := by omega) (c_NP := c77)) (fun o V_q hq => ?_)
          obtain ⟨F105, rfl, rfl, hC106, hM107, p108, c109, c110, -⟩ := hq
          have hM111 : Fq 0 [(7, 15), (9, 2), (10, 0), (10, 1), (10, 2), (10, 8), (11, 8), (11, 12), (11, 13), (11, 14), (11, 15), (11, 16), (11, 17), (11, 18)] m tg F F105 := Fq_t (ln := ln) (ln1 := ln56) hM89 hX96 hM107 (by decide) (Or.inl rfl)
          refine Or.inl ⟨rfl, ?_⟩
          refine jx_ld (pc_q := 115) (l_q := L98) (st_q := [rv (me)]) rfl (jl_rvn g99) ?_
          refine cx_gr (pc_q := 118) (c := 8) (q := 1) (v := sc) rfl rfl (by decide) (by decide) rfl rfl ho92.1 ho92.2 (((show F105 (me) (1 : Int) = F57 (me) (1 : Int) from hM107 _ _ ho92.1 (own_z ho92.1) (by rw [ho92.2]; rfl)).trans ((show F57 (me) (1 : Int) = F20 (me) (1 : Int) from hM61 _ _ ho45.1 (own_z ho45.1) (by rw [ho45.2]; rfl)).trans (show F20 (me) (1 : Int) = F (me) (1 : Int) from hM23 _ _ o_me (own_z o_me) (by rw [t_me]; rfl)))).trans e_sc) ?_
          have q112 : F105 (sc) (8 : Int) = F20 (sc) (8 : Int) := ((show F105 (sc) (8 : Int) = F57 (sc) (8 : Int) from hM107 _ _ ho94.1 (own_z ho94.1) (by rw [ho94.2]; rfl)).trans (show F57 (sc) (8 : Int) = F20 (sc) (8 : Int) from hM61 _ _ ho47.1 (own_z ho47.1) (by rw [ho47.2]; rfl)))
          have q113 : F105 (sc) (15 : Int) = F20 (sc) (15 : Int) := ((show F105 (sc) (15 : Int) = F57 (sc) (15 : Int) from hM107 _ _ ho94.1 (own_z ho94.1) (by rw [ho94.2]; rfl)).trans (show F57 (sc) (15 : Int) = F20 (sc) (15 : Int) from hM61 _ _ ho47.1 (own_z ho47.1) (by rw [ho47.2]; rfl)))
          have q114 : tz (F105 (sc) (15 : Int)) = tz (F20 (sc) (15 : Int)) := by rw [q113]
          have q115 := tz_b (F20 (sc) (15 : Int))
          have q116 : F105 (sc) (7 : Int) = F (sc) (7 : Int) := ((show F105 (sc) (7 : Int) = F57 (sc) (7 : Int) from hM107 _ _ ho94.1 (own_z ho94.1) (by rw [ho94.2]; rfl)).trans ((show F57 (sc) (7 : Int) = F20 (sc) (7 : Int) from hM61 _ _ ho47.1 (own_z ho47.1) (by rw [ho47.2]; rfl)).trans q52))
          have q117 : F105 (sc) (14 : Int) = F20 (sc) (14 : Int) := ((show F105 (sc) (14 : Int) = F57 (sc) (14 : Int) from hM107 _ _ ho94.1 (own_z ho94.1) (by rw [ho94.2]; rfl)).trans (show F57 (sc) (14 : Int) = F20 (sc) (14 : Int) from hM61 _ _ ho47.1 (own_z ho47.1) (by rw [ho47.2]; rfl)))
          have q118 : lz (F105 (sc) (14 : Int)) = lz (F20 (sc) (14 : Int)) := by rw [q117]
          have q119 := lz_b (F20 (sc) (14 : Int))
          refine cx_vi (c := 10) (a := sc) (st := []) (as := []) rfl rfl rfl ho94.1 ho94.2 (by decide) rfl ⟨rfl, rfl, (Nat.le_of_ble_eq_true rfl)⟩ rfl (k_LScanner_next (dd := d) (R := R) (m := m56) (tg := tg56) (ln := ln56) (F := F105) (me := sc) (hd := by omega) (hC := hC106) (o_me := ho94.1) (t_me := ho94.2) (p_0 := by omega) (p_1 := by omega)) (fun o V_q hq => ?_)
          obtain ⟨F120, rfl, rfl, hC121, hM122, p123, p124, p125, -⟩ := hq
          have hM126 : Fq 0 [(7, 15), (9, 2), (10, 0), (10, 1), (10, 2), (10, 8), (11, 8), (11, 12), (11, 13), (11, 14), (11, 15), (11, 16), (11, 17), (11, 18)] m tg F F120 := Fq_t (ln := ln) (ln1 := ln56) hM111 hX96 hM122 (by decide) (Or.inl rfl)
          have c127 : NP m56 tg56 F120 := NP_q hC106 c109 hM122 rfl rfl
          refine Or.inl ⟨rfl, ?_⟩
          refine jx_ld (pc_q := 123) (l_q := L98) (st_q := [rv (r58)]) rfl (jl_rv g103) ?_
          refine jx_rt (v := some (rv (r58))) rfl rfl rfl rfl rfl jr_are ?_
          have q128 : F120 (sc) (7 : Int) = F (sc) (7 : Int) := ((show F120 (sc) (7 : Int) = F105 (sc) (7 : Int) from hM122 _ _ ho94.1 (own_z ho94.1) (by rw [ho94.2]; rfl)).trans q116)
          have q129 : F120 (pg) (9 : Int) = F (pg) (9 : Int) := ((show F120 (pg) (9 : Int) = F105 (pg) (9 : Int) from hM122 _ _ ho95.1 (own_z ho95.1) (by rw [ho95.2]; rfl)).trans ((show F105 (pg) (9 : Int) = F57 (pg) (9 : Int) from hM107 _ _ ho95.1 (own_z ho95.1) (by rw [ho95.2]; rfl)).trans ((show F57 (pg) (9 : Int) = F20 (pg) (9 : Int) from hM61 _ _ ho48.1 (own_z ho48.1) (by rw [ho48.2]; rfl)).trans q54)))
          have q130 := tz_b (F120 (sc) (15 : Int))
          have q131 := lz_b (F120 (sc) (14 : Int))
          have q132 : F120 (pg) (9 : Int) = F (pg) (9 : Int) := q129
          have q133 : F120 (r58) (14 : Int) = F57 (r58) (14 : Int) := ((show F120 (r58) (14 : Int) = F105 (r58) (14 : Int) from hM122 _ _ b62.1 (own_z b62.1) (by rw [b62.2]; rfl)).trans (show F105 (r58) (14 : Int) = F57 (r58) (14 : Int) from hM107 _ _ b62.1 (own_z b62.1) (by rw [b62.2]; rfl)))
          exact Or.inl ⟨m56, tg56, ln56, F120, (r58), rfl, rfl, hX96, hC121, hM126, ⟨b62.1, b62.2⟩, by omega, by omega, by omega, by omega, by omega, by omega, by omega, by omega, by omega, c127, c97, trivial⟩
        · have _q := h16
          exact absurd h16 (by omega)
      · have _q := h15
        have t134 : tz (F (sc) (15 : Int)) = 1 := tz_p (by omega)
        refine jx_ar (pc_q := 60) (st_q := [.int (i32 (6))]) rfl rfl rfl rfl ?_
        refine jx_ld (pc_q := 61) (l_q := jSto1 L7 2 (.int (i32 (6)))) (st_q := []) rfl rfl ?_
        obtain ⟨L135, eL135⟩ : ∃ q : jL, q = jSto1 L7 2 (.int (i32 (6))) := ⟨_, rfl⟩
        rw [← eL135]
        have g136 : jGet L135 0 = some (rv (me)) := eL135 ▸ jg_nr (by decide) g8
        have g137 : jGet L135 1 = some (rv (bf)) := eL135 ▸ jg_nr (by decide) g9
        have g138 : jGet L135 3 = some (.int (i32 (1))) := eL135 ▸ jg_ne (by decide) g11 rfl
        have g139 : jGet L135 2 = some (.int (i32 (6))) := eL135 ▸ jg_eq
        clear eL135
        refine jx_ld (pc_q := 62) (l_q := L135) (st_q := [rv (me)]) rfl (jl_rvn g136) ?_
        refine cx_gr (pc_q := 65) (c := 8) (q := 1) (v := sc) rfl rfl (by decide) (by decide) rfl rfl o_me t_me e_sc ?_
        have q140 := tz_b (F (sc) (15 : Int))
        have q141 := lz_b (F (sc) (14 : Int))
        refine cx_vi (c := 10) (a := sc) (st := []) (as := []) rfl rfl rfl o_sc t_sc (by decide) rfl ⟨rfl, rfl, (Nat.le_of_ble_eq_true rfl)⟩ rfl (k_LScanner_next (dd := d) (R := R) (m := m) (tg := tg) (ln := ln) (F := F) (me := sc) (hd := by omega) (hC := hC) (o_me := o_sc) (t_me := t_sc) (p_0 := by omega) (p_1 := by omega)) (fun o V_q hq => ?_)
        obtain ⟨F142, rfl, rfl, hC143, hM144, p145, p146, p147, -⟩ := hq
        have hM148 : Fq 0 [(7, 15), (9, 2), (10, 0), (10, 1), (10, 2), (10, 8), (11, 8), (11, 12), (11, 13), (11, 14), (11, 15), (11, 16), (11, 17), (11, 18)] m tg F F142 := Fq_t (ln := ln) (ln1 := ln) hM0 hX0 hM144 (by decide) (Or.inl rfl)
        have c149 : NP m tg F142 := NP_q hC c_NP hM144 rfl rfl
        refine Or.inl ⟨rfl, ?_⟩
        refine jx_ld (pc_q := 69) (l_q := L135) (st_q := [rv (me)]) rfl (jl_rvn g136) ?_
        refine jx_ar (pc_q := 70) (st_q := [.int (i32 (1)), rv (me)]) rfl rfl rfl rfl ?_
        refine jx_ar (pc_q := 72) (st_q := [.int (i32 (64)), .int (i32 (1)), rv (me)]) rfl rfl rfl rfl ?_
        have q150 := tz_b (F142 (sc) (15 : Int))
        have q151 : F142 (sc) (7 : Int) = F (sc) (7 : Int) := (show F142 (sc) (7 : Int) = F (sc) (7 : Int) from hM144 _ _ o_sc (own_z o_sc) (by rw [t_sc]; rfl))
        have q152 := lz_b (F142 (sc) (14 : Int))
        have q153 : F142 (pg) (9 : Int) = F (pg) (9 : Int) := (show F142 (pg) (9 : Int) = F (pg) (9 : Int) from hM144 _ _ o_pg (own_z o_pg) (by rw [t_pg]; rfl))
        refine cx_vi (c := 8) (a := me) (st := []) (as := [.int (i32 (1)), .int (i32 (64))]) rfl rfl rfl o_me t_me (by decide) rfl ⟨rfl, rfl, (Nat.le_of_ble_eq_true rfl)⟩ rfl (k_LParser_readNumber (dd := d) (R := R) (m := m) (tg := tg) (ln := ln) (F := F142) (me := me) (le := 1) (mo := 64) (hd := by omega) (hC := hC143) (o_me := o_me) (t_me := t_me) (h_le := by omega) (h_mo := by omega) (sc := sc) (pg := pg) (o_sc := o_sc) (t_sc := t_sc) (e_sc := ((show F142 (me) (1 : Int) = F (me) (1 : Int) from hM144 _ _ o_me (own_z o_me) (by rw [t_me]; rfl)).trans e_sc)) (o_pg := o_pg) (t_pg := t_pg) (e_pg := ((show F142 (me) (0 : Int) = F (me) (0 : Int) from hM144 _ _ o_me (own_z o_me) (by rw [t_me]; rfl)).trans e_pg)) (p_0 := by omega) (p_1 := by omega) (p_2 := by omega) (c_NP := c149)) (fun o V_q hq => ?_)
        obtain ⟨m154, tg154, ln154, F155, r156, rfl, rfl, hx157, hC158, hM159, b160, p161, p162, p163, p164, p165, p166, p167, p168, p169, p170, c171, c172, -⟩ | ⟨m173, tg173, ln173, F173, x173, rfl, rfl, hx173, hC173, hM173, ho173, ht173, p174, p175, p176, p177, c178, c179, -⟩ := hq
        rotate_left
        ·
          have c180 : NM m m173 tg173 := NM_t NM_0 hx173 c179
          have lm181 := hx173.1
          refine Or.inr (Or.inr (Or.inr ⟨_, _, rfl, cx_exc (c := 15) ho173 ht173 (by decide), rfl, ?_⟩))
          have q182 : F142 (sc) (7 : Int) = F (sc) (7 : Int) := q151
          exact Or.inr ⟨m173, tg173, ln173, F173, x173, rfl, rfl, Ex_t hX0 hx173, hC173, Fq_t (ln := ln) (ln1 := ln) hM148 hX0 hM173 (by decide) (Or.inl rfl), (And.intro ho173 ht173).1, (And.intro ho173 ht173).2, by omega, by omega, by omega, by omega, c178, c180, trivial⟩
        have hM183 : Fq 0 [(7, 15), (9, 2), (10, 0), (10, 1), (10, 2), (10, 8), (11, 8), (11, 12), (11, 13), (11, 14), (11, 15), (11, 16), (11, 17), (11, 18)] m tg F F155 := Fq_t (ln := ln) (ln1 := ln) hM148 hX0 hM159 (by decide) (Or.inl rfl)
        have lm184 := hx157.1
        have lt185 : bf < 64 + (m : Int) := by rcases y_bf with w | w; (· omega); exact w.1.2.1
        have ho186 : own m154 (me) ∧ tg154 (me) = 9 := Ex_o hx157 ⟨o_me, t_me⟩
        have y187 : bf = 0 ∨ (own m154 (bf) ∧ tg154 (bf) = 7) := Ex_z hx157 y_bf
        have ho188 : own m154 (sc) ∧ tg154 (sc) = 11 := Ex_o hx157 ⟨o_sc, t_sc⟩
        have ho189 : own m154 (pg) ∧ tg154 (pg) = 10 := Ex_o hx157 ⟨o_pg, t_pg⟩
        have hX190 := Ex_t hX0 hx157
        have c191 : NM m m154 tg154 := NM_t NM_0 hx157 c172
        refine Or.inr (Or.inl ⟨_, rfl, ?_⟩)
        refine jx_ld (pc_q := 76) (l_q := jSto1 L135 3 (.int (i32 (r156)))) (st_q := []) rfl rfl ?_
        obtain ⟨L192, eL192⟩ : ∃ q : jL, q = jSto1 L135 3 (.int (i32 (r156))) := ⟨_, rfl⟩
        rw [← eL192]
        have g193 : jGet L192 0 = some (rv (me)) := eL192 ▸ jg_nr (by decide) g136
        have g194 : jGet L192 1 = some (rv (bf)) := eL192 ▸ jg_nr (by decide) g137
        have g195 : jGet L192 2 = some (.int (i32 (6))) := eL192 ▸ jg_ne (by decide) g139 rfl
        have g196 : jGet L192 3 = some (.int (i32 (r156))) := eL192 ▸ jg_eq
        clear eL192
        refine jx_ld (pc_q := 77) (l_q := L192) (st_q := [rv (me)]) rfl (jl_rvn g193) ?_
        refine jx_ar (pc_q := 79) (st_q := [.int (i32 (57)), rv (me)]) rfl rfl rfl rfl ?_
        have q197 := tz_b (F155 (sc) (15 : Int))
        have q198 : F155 (sc) (7 : Int) = F (sc) (7 : Int) := ((show F155 (sc) (7 : Int) = F142 (sc) (7 : Int) from hM159 _ _ o_sc (own_z o_sc) (by rw [t_sc]; rfl)).trans q151)
        have q199 := lz_b (F155 (sc) (14 : Int))
        have q200 : F155 (pg) (9 : Int) = F (pg) (9 : Int) := ((show F155 (pg) (9 : Int) = F142 (pg) (9 : Int) from hM159 _ _ o_pg (own_z o_pg) (by rw [t_pg]; rfl)).trans q153)
        refine cx_vi (c := 8) (a := me) (st := []) (as := [.int (i32 (57))]) rfl rfl rfl ho186.1 ho186.2 (by decide) rfl ⟨rfl, rfl, (Nat.le_of_ble_eq_true rfl)⟩ rfl (k_LParser_expect (dd := d) (R := R) (m := m154) (tg := tg154) (ln := ln154) (F := F155) (me := me) (tk := 57) (hd := by omega) (hC := hC158) (o_me := ho186.1) (t_me := ho186.2) (h_tk := by omega) (sc := sc) (pg := pg) (o_sc := ho188.1) (t_sc := ho188.2) (e_sc := (((show F155 (me) (1 : Int) = F142 (me) (1 : Int) from hM159 _ _ o_me (own_z o_me) (by rw [t_me]; rfl)).trans (show F142 (me) (1 : Int) = F (me) (1 : Int) from hM144 _ _ o_me (own_z o_me) (by rw [t_me]; rfl))).trans e_sc)) (o_pg := ho189.1) (t_pg := ho189.2) (e_pg := (((show F155 (me) (0 : Int) = F142 (me) (0 : Int) from hM159 _ _ o_me (own_z o_me) (by rw [t_me]; rfl)).trans (show F142 (me) (0 : Int) = F (me) (0 : Int) from hM144 _ _ o_me (own_z o_me) (by rw [t_me]; rfl))).trans e_pg)) (p_0 := by omega) (p_1 := by omega) (p_2 := by omega) (p_3 := by omega) (c_NP := c171)) (fun o V_q hq => ?_)
        obtain ⟨m201, tg201, ln201, F202, rfl, rfl, hx203, hC204, hM205, p206, p207, p208, p209, p210, p211, p212, c213, c214, -⟩ | ⟨m215, tg215, ln215, F215, x215, rfl, rfl, hx215, hC215, hM215, ho215, ht215, p216, p217, p218, p219, c220, c221, -⟩ := hq
        rotate_left
        ·
          have c222 : NM m m215 tg215 := NM_t c191 hx215 c221
          have lm223 := hx215.1
          refine Or.inr (Or.inr (Or.inr ⟨_, _, rfl, cx_exc (c := 15) ho215 ht215 (by decide), rfl, ?_⟩))
          have q224 : F155 (sc) (7 : Int) = F (sc) (7 : Int) := q198
          exact Or.inr ⟨m215, tg215, ln215, F215, x215, rfl, rfl, Ex_t hX190 hx215, hC215, Fq_t (ln := ln) (ln1 := ln154) hM183 hX190 hM215 (by decide) (Or.inl rfl), (And.intro ho215 ht215).1, (And.intro ho215 ht215).2, by omega, by omega, by omega, by omega, c220, c222, trivial⟩
        have hM225 : Fq 0 [(7, 15), (9, 2), (10, 0), (10, 1), (10, 2), (10, 8), (11, 8), (11, 12), (11, 13), (11, 14), (11, 15), (11, 16), (11, 17), (11, 18)] m tg F F202 := Fq_t (ln := ln) (ln1 := ln154) hM183 hX190 hM205 (by decide) (Or.inl rfl)
        have lm226 := hx203.1
        have lt227 : bf < 64 + (m154 : Int) := by rcases y187 with w | w; (· omega); exact w.1.2.1
        have ho228 : own m201 (me) ∧ tg201 (me) = 9 := Ex_o hx203 ⟨ho186.1, ho186.2⟩
        have y229 : bf = 0 ∨ (own m201 (bf) ∧ tg201 (bf) = 7) := Ex_z hx203 y187
        have ho230 : own m201 (sc) ∧ tg201 (sc) = 11 := Ex_o hx203 ⟨ho188.1, ho188.2⟩
        have ho231 : own m201 (pg) ∧ tg201 (pg) = 10 := Ex_o hx203 ⟨ho189.1, ho189.2⟩
        have hX232 := Ex_t hX190 hx203
        have c233 : NM m m201 tg201 := NM_t c191 hx203 c214
        refine Or.inl ⟨rfl, ?_⟩
        refine jx_ld (pc_q := 83) (l_q := L192) (st_q := [rv (me)]) rfl (jl_rvn g193) ?_
        refine jx_ld (pc_q := 84) (l_q := L192) (st_q := [.int (i32 (6)), rv (me)]) rfl (jl_iloadn g195) ?_
        refine jx_ar (pc_q := 86) (st_q := [.int (i32 (8)), .int (i32 (6)), rv (me)]) rfl rfl rfl rfl ?_
        refine jx_icmp_ne (pc_q := 89) (tg := 94) rfl rfl rfl (by decide) (by decide) (by decide) (by decide) (fun h234 => ?_) (fun h234 => ?_)
        · have _q := h234
          refine jx_ar (pc_q := 96) (st_q := [.int (i32 (18)), rv (me)]) rfl rfl rfl rfl ?_
          have q235 := tz_b (F202 (sc) (15 : Int))
          have q236 : F202 (sc) (7 : Int) = F (sc) (7 : Int) := ((show F202 (sc) (7 : Int) = F155 (sc) (7 : Int) from hM205 _ _ ho188.1 (own_z ho188.1) (by rw [ho188.2]; rfl)).trans q198)
          have q237 := lz_b (F202 (sc) (14 : Int))
          have q238 : F202 (pg) (9 : Int) = F (pg) (9 : Int) := ((show F202 (pg) (9 : Int) = F155 (pg) (9 : Int) from hM205 _ _ ho189.1 (own_z ho189.1) (by rw [ho189.2]; rfl)).trans q200)
          refine cx_vi (c := 8) (a := me) (st := []) (as := [.int (i32 (18))]) rfl rfl rfl ho228.1 ho228.2 (by decide) rfl ⟨rfl, rfl, (Nat.le_of_ble_eq_true rfl)⟩ rfl (k_LParser_expect (dd := d) (R := R) (m := m201) (tg := tg201) (ln := ln201) (F := F202) (me := me) (tk := 18) (hd := by omega) (hC := hC204) (o_me := ho228.1) (t_me := ho228.2) (h_tk := by omega) (sc := sc) (pg := pg) (o_sc := ho230.1) (t_sc := ho230.2) (e_sc := (((show F202 (me) (1 : Int) = F155 (me) (1 : Int) from hM205 _ _ ho186.1 (own_z ho186.1) (by rw [ho186.2]; rfl)).trans ((show F155 (me) (1 : Int) = F142 (me) (1 : Int) from hM159 _ _ o_me (own_z o_me) (by rw [t_me]; rfl)).trans (show F142 (me) (1 : Int) = F (me) (1 : Int) from hM144 _ _ o_me (own_z o_me) (by rw [t_me]; rfl)))).trans e_sc)) (o_pg := ho231.1) (t_pg := ho231.2) (e_pg := (((show F202 (me) (0 : Int) = F155 (me) (0 : Int) from hM205 _ _ ho186.1 (own_z ho186.1) (by rw [ho186.2]; rfl)).trans ((show F155 (me) (0 : Int) = F142 (me) (0 : Int) from hM159 _ _ o_me (own_z o_me) (by rw [t_me]; rfl)).trans (show F142 (me) (0 : Int) = F (me) (0 : Int) from hM144 _ _ o_me (own_z o_me) (by rw [t_me]; rfl)))).trans e_pg)) (p_0 := by omega) (p_1 := by omega) (p_2 := by omega) (p_3 := by omega) (c_NP := c213)) (fun o V_q hq => ?_)
          obtain ⟨m239, tg239, ln239, F240, rfl, rfl, hx241, hC242, hM243, p244, p245, p246, p247, p248, p249, p250, c251, c252, -⟩ | ⟨m253, tg253, ln253, F253, x253, rfl, rfl, hx253, hC253, hM253, ho253, ht253, p254, p255, p256, p257, c258, c259, -⟩ := hq
          rotate_left
          ·
            have c260 : NM m m253 tg253 := NM_t c233 hx253 c259
            have lm261 := hx253.1
            refine Or.inr (Or.inr (Or.inr ⟨_, _, rfl, cx_exc (c := 15) ho253 ht253 (by decide), rfl, ?_⟩))
            have q262 : F202 (sc) (7 : Int) = F (sc) (7 : Int) := q236
            exact Or.inr ⟨m253, tg253, ln253, F253, x253, rfl, rfl, Ex_t hX232 hx253, hC253, Fq_t (ln := ln) (ln1 := ln201) hM225 hX232 hM253 (by decide) (Or.inl rfl), (And.intro ho253 ht253).1, (And.intro ho253 ht253).2, by omega, by omega, by omega, by omega, c258, c260, trivial⟩
          have hM263 : Fq 0 [(7, 15), (9, 2), (10, 0), (10, 1), (10, 2), (10, 8), (11, 8), (11, 12), (11, 13), (11, 14), (11, 15), (11, 16), (11, 17), (11, 18)] m tg F F240 := Fq_t (ln := ln) (ln1 := ln201) hM225 hX232 hM243 (by decide) (Or.inl rfl)
          have lm264 := hx241.1
          have lt265 : bf < 64 + (m201 : Int) := by rcases y229 with w | w; (· omega); exact w.1.2.1
          have ho266 : own m239 (me) ∧ tg239 (me) = 9 := Ex_o hx241 ⟨ho228.1, ho228.2⟩
          have y267 : bf = 0 ∨ (own m239 (bf) ∧ tg239 (bf) = 7) := Ex_z hx241 y229
          have ho268 : own m239 (sc) ∧ tg239 (sc) = 11 := Ex_o hx241 ⟨ho230.1, ho230.2⟩
          have ho269 : own m239 (pg) ∧ tg239 (pg) = 10 := Ex_o hx241 ⟨ho231.1, ho231.2⟩
          have hX270 := Ex_t hX232 hx241
          have c271 : NM m m239 tg239 := NM_t c233 hx241 c252
          refine Or.inl ⟨rfl, ?_⟩
          refine jx_ld (pc_q := 100) (l_q := L192) (st_q := [rv (me)]) rfl (jl_rvn g193) ?_
          refine jx_ld (pc_q := 101) (l_q := L192) (st_q := [.int (i32 (6)), rv (me)]) rfl (jl_iloadn g195) ?_
          refine jx_ld (pc_q := 102) (l_q := L192) (st_q := [.int (i32 (r156)), .int (i32 (6)), rv (me)]) rfl (jl_iloadn g196) ?_
          refine jx_ld (pc_q := 103) (l_q := L192) (st_q := [rv (bf), .int (i32 (r156)), .int (i32 (6)), rv (me)]) rfl (jl_rvn g194) ?_
          have q272 := tz_b (F240 (sc) (15 : Int))
          have q273 : F240 (sc) (7 : Int) = F (sc) (7 : Int) := ((show F240 (sc) (7 : Int) = F202 (sc) (7 : Int) from hM243 _ _ ho230.1 (own_z ho230.1) (by rw [ho230.2]; rfl)).trans q236)
          have q274 := lz_b (F240 (sc) (14 : Int))
          have q275 : F240 (pg) (9 : Int) = F (pg) (9 : Int) := ((show F240 (pg) (9 : Int) = F202 (pg) (9 : Int) from hM243 _ _ ho231.1 (own_z ho231.1) (by rw [ho231.2]; rfl)).trans q238)
          have q276 : F240 (me) (2 : Int) = F (me) (2 : Int) := ((show F240 (me) (2 : Int) = F202 (me) (2 : Int) from hM243 _ _ ho228.1 (own_z ho228.1) (by rw [ho228.2]; rfl)).trans ((show F202 (me) (2 : Int) = F155 (me) (2 : Int) from hM205 _ _ ho186.1 (own_z ho186.1) (by rw [ho186.2]; rfl)).trans ((show F155 (me) (2 : Int) = F142 (me) (2 : Int) from hM159 _ _ o_me (own_z o_me) (by rw [t_me]; rfl)).trans (show F142 (me) (2 : Int) = F (me) (2 : Int) from hM144 _ _ o_me (own_z o_me) (by rw [t_me]; rfl)))))
          refine cx_vi (c := 8) (a := me) (st := []) (as := [.int (i32 (6)), .int (i32 (r156)), rv (bf)]) rfl rfl rfl ho266.1 ho266.2 (by decide) rfl ⟨rfl, rfl, (Nat.le_of_ble_eq_true rfl)⟩ rfl (k_LParser_fresh (dd := d) (R := R) (m := m239) (tg := tg239) (ln := ln239) (F := F240) (me := me) (kd := 6) (sz := r156) (si := bf) (hd := by omega) (hC := hC242) (o_me := ho266.1) (t_me := ho266.2) (h_kd := by omega) (h_sz := by omega) (y_si := y267) (sc := sc) (pg := pg) (o_sc := ho268.1) (t_sc := ho268.2) (e_sc := (((show F240 (me) (1 : Int) = F202 (me) (1 : Int) from hM243 _ _ ho228.1 (own_z ho228.1) (by rw [ho228.2]; rfl)).trans ((show F202 (me) (1 : Int) = F155 (me) (1 : Int) from hM205 _ _ ho186.1 (own_z ho186.1) (by rw [ho186.2]; rfl)).trans ((show F155 (me) (1 : Int) = F142 (me) (1 : Int) from hM159 _ _ o_me (own_z o_me) (by rw [t_me]; rfl)).trans (show F142 (me) (1 : Int) = F (me) (1 : Int) from hM144 _ _ o_me (own_z o_me) (by rw [t_me]; rfl))))).trans e_sc)) (o_pg := ho269.1) (t_pg := ho269.2) (e_pg := (((show F240 (me) (0 : Int) = F202 (me) (0 : Int) from hM243 _ _ ho228.1 (own_z ho228.1) (by rw [ho228.2]; rfl)).trans ((show F202 (me) (0 : Int) = F155 (me) (0 : Int) from hM205 _ _ ho186.1 (own_z ho186.1) (by rw [ho186.2]; rfl)).trans ((show F155 (me) (0 : Int) = F142 (me) (0 : Int) from hM159 _ _ o_me (own_z o_me) (by rw [t_me]; rfl)).trans (show F142 (me) (0 : Int) = F (me) (0 : Int) from hM144 _ _ o_me (own_z o_me) (by rw [t_me]; rfl))))).trans e_pg)) (p_0 := by omega) (p_1 := by omega) (p_2 := by omega) (c_NP := c251)) (fun o V_q hq => ?_)
          obtain ⟨m277, tg277, ln277, F278, r279, rfl, rfl, hx280, hC281, hM282, b283, p284, p285, p286, p287, p288, p289, p290, p291, p292, p293, p294, p295, p296, p297, c298, c299, -⟩ | ⟨m300, tg300, ln300, F300, x300, rfl, rfl, hx300, hC300, hM300, ho300, ht300, p301, p302, p303, p304, c305, c306, -⟩ := hq
          rotate_left
          ·
            have c307 : NM m m300 tg300 := NM_t c271 hx300 c306
            have lm308 := hx300.1
            refine Or.inr (Or.inr (Or.inr ⟨_, _, rfl, cx_exc (c := 15) ho300 ht300 (by decide), rfl, ?_⟩))
            have q309 : F240 (sc) (7 : Int) = F (sc) (7 : Int) := q273
            exact Or.inr ⟨m300, tg300, ln300, F300, x300, rfl, rfl, Ex_t hX270 hx300, hC300, Fq_t (ln := ln) (ln1 := ln239) hM263 hX270 hM300 (by decide) (Or.inl rfl), (And.intro ho300 ht300).1, (And.intro ho300 ht300).2, by omega, by omega, by omega, by omega, c305, c307, trivial⟩
          have hM310 : Fq 0 [(7, 15), (9, 2), (10, 0), (10, 1), (10, 2), (10, 8), (11, 8), (11, 12), (11, 13), (11, 14), (11, 15), (11, 16), (11, 17), (11, 18)] m tg F F278 := Fq_t (ln := ln) (ln1 := ln239) hM263 hX270 hM282 (by decide) (Or.inl rfl)
          have lm311 := hx280.1
          have lt312 : bf < 64 + (m239 : Int) := by rcases y267 with w | w; (· omega); exact w.1.2.1
          have ho313 : own m277 (me) ∧ tg277 (me) = 9 := Ex_o hx280 ⟨ho266.1, ho266.2⟩
          have y314 : bf = 0 ∨ (own m277 (bf) ∧ tg277 (bf) = 7) := Ex_z hx280 y267
          have ho315 : own m277 (sc) ∧ tg277 (sc) = 11 := Ex_o hx280 ⟨ho268.1, ho268.2⟩
          have ho316 : own m277 (pg) ∧ tg277 (pg) = 10 := Ex_o hx280 ⟨ho269.1, ho269.2⟩
          have hX317 := Ex_t hX270 hx280
          have c318 : NM m m277 tg277 := NM_t c271 hx280 c299
          refine Or.inr (Or.inl ⟨_, rfl, ?_⟩)
          refine jx_ld (pc_q := 108) (l_q := jSto1 L192 4 (rv (r279))) (st_q := []) rfl (js_rv (by decide)) ?_
          obtain ⟨L319, eL319⟩ : ∃ q : jL, q = jSto1 L192 4 (rv (r279)) := ⟨_, rfl⟩
          rw [← eL319]
          have g320 : jGet L319 0 = some (rv (me)) := eL319 ▸ jg_nr (by decide) g193
          have g321 : jGet L319 1 = some (rv (bf)) := eL319 ▸ jg_nr (by decide) g194
          have g322 : jGet L319 2 = some (.int (i32 (6))) := eL319 ▸ jg_ne (by decide) g195 rfl
          have g323 : jGet L319 3 = some (.int (i32 (r156))) := eL319 ▸ jg_ne (by decide) g196 rfl
          have g324 : jGet L319 4 = some (rv (r279)) := eL319 ▸ jg_eq
          clear eL319
          refine jx_ld (pc_q := 109) (l_q := L319) (st_q := [rv (me)]) rfl (jl_rvn g320) ?_
          refine jx_ld (pc_q := 111) (l_q := L319) (st_q := [rv (r279), rv (me)]) rfl (jl_rv g324) ?_
          have q325 : F278 (me) (2 : Int) = F (me) (2 : Int) := ((show F278 (me) (2 : Int) = F240 (me) (2 : Int) from hM282 _ _ ho266.1 (own_z ho266.1) (by rw [ho266.2]; rfl)).trans q276)
          refine cx_vi (c := 8) (a := me) (st := []) (as := [rv (r279)]) rfl rfl rfl ho313.1 ho313.2 (by decide) rfl ⟨rfl, rfl, (Nat.le_of_ble_eq_true rfl)⟩ rfl (k_LParser_show (dd := d) (R := R) (m := m277) (tg := tg277) (ln := ln277) (F := F278) (me := me) (nm := r279) (hd := by omega) (hC := hC281) (o_me := ho313.1) (t_me := ho313.2) (o_nm := b283.1) (t_nm := b283.2) (sc := sc) (pg := pg) (o_sc := ho315.1) (t_sc := ho315.2) (e_sc := (((show F278 (me) (1 : Int) = F240 (me) (1 : Int) from hM282 _ _ ho266.1 (own_z ho266.1) (by rw [ho266.2]; rfl)).trans ((show F240 (me) (1 : Int) = F202 (me) (1 : Int) from hM243 _ _ ho228.1 (own_z ho228.1) (by rw [ho228.2]; rfl)).trans ((show F202 (me) (1 : Int) = F155 (me) (1 : Int) from hM205 _ _ ho186.1 (own_z ho186.1) (by rw [ho186.2]; rfl)).trans ((show F155 (me) (1 : Int) = F142 (me) (1 : Int) from hM159 _ _ o_me (own_z o_me) (by rw [t_me]; rfl)).trans (show F142 (me) (1 : Int) = F (me) (1 : Int) from hM144 _ _ o_me (own_z o_me) (by rw [t_me]; rfl)))))).trans e_sc)) (o_pg := ho316.1) (t_pg := ho316.2) (e_pg := (((show F278 (me) (0 : Int) = F240 (me) (0 : Int) from hM282 _ _ ho266.1 (own_z ho266.1) (by rw [ho266.2]; rfl)).trans ((show F240 (me) (0 : Int) = F202 (me) (0 : Int) from hM243 _ _ ho228.1 (own_z ho228.1) (by rw [ho228.2]; rfl)).trans ((show F202 (me) (0 : Int) = F155 (me) (0 : Int) from hM205 _ _ ho186.1 (own_z ho186.1) (by rw [ho186.2]; rfl)).trans ((show F155 (me) (0 : Int) = F142 (me) (0 : Int) from hM159 _ _ o_me (own_z o_me) (by rw [t_me]; rfl)).trans (show F142 (me) (0 : Int) = F (me) (0 : Int) from hM144 _ _ o_me (own_z o_me) (by rw [t_me]; rfl)))))).trans e_pg)) (p_0 := by omega) (c_NP := c298)) (fun o V_q hq => ?_)
          obtain ⟨F326, rfl, rfl, hC327, hM328, p329, c330, c331, -⟩ := hq
          have hM332 : Fq 0 [(7, 15), (9, 2), (10, 0), (10, 1), (10, 2), (10, 8), (11, 8), (11, 12), (11, 13), (11, 14), (11, 15), (11, 16), (11, 17), (11, 18)] m tg F F326 := Fq_t (ln := ln) (ln1 := ln277) hM310 hX317 hM328 (by decide) (Or.inl rfl)
          refine Or.inl ⟨rfl, ?_⟩
          refine jx_ld (pc_q := 115) (l_q := L319) (st_q := [rv (me)]) rfl (jl_rvn g320) ?_
          refine cx_gr (pc_q := 118) (c := 8) (q := 1) (v := sc) rfl rfl (by decide) (by decide) rfl rfl ho313.1 ho313.2 (((show F326 (me) (1 : Int) = F278 (me) (1 : Int) from hM328 _ _ ho313.1 (own_z ho313.1) (by rw [ho313.2]; rfl)).trans ((show F278 (me) (1 : Int) = F240 (me) (1 : Int) from hM282 _ _ ho266.1 (own_z ho266.1) (by rw [ho266.2]; rfl)).trans ((show F240 (me) (1 : Int) = F202 (me) (1 : Int) from hM243 _ _ ho228.1 (own_z ho228.1) (by rw [ho228.2]; rfl)).trans ((show F202 (me) (1 : Int) = F155 (me) (1 : Int) from hM205 _ _ ho186.1 (own_z ho186.1) (by rw [ho186.2]; rfl)).trans ((show F155 (me) (1 : Int) = F142 (me) (1 : Int) from hM159 _ _ o_me (own_z o_me) (by rw [t_me]; rfl)).trans (show F142 (me) (1 : Int) = F (me) (1 : Int) from hM144 _ _ o_me (own_z o_me) (by rw [t_me]; rfl))))))).trans e_sc) ?_
          have q333 : F326 (sc) (8 : Int) = F240 (sc) (8 : Int) := ((show F326 (sc) (8 : Int) = F278 (sc) (8 : Int) from hM328 _ _ ho315.1 (own_z ho315.1) (by rw [ho315.2]; rfl)).trans (show F278 (sc) (8 : Int) = F240 (sc) (8 : Int) from hM282 _ _ ho268.1 (own_z ho268.1) (by rw [ho268.2]; rfl)))
          have q334 : F326 (sc) (15 : Int) = F240 (sc) (15 : Int) := ((show F326 (sc) (15 : Int) = F278 (sc) (15 : Int) from hM328 _ _ ho315.1 (own_z ho315.1) (by rw [ho315.2]; rfl)).trans (show F278 (sc) (15 : Int) = F240 (sc) (15 : Int) from hM282 _ _ ho268.1 (own_z ho268.1) (by rw [ho268.2]; rfl)))
          have q335 : tz (F326 (sc) (15 : Int)) = tz (F240 (sc) (15 : Int)) := by rw [q334]
          have q336 := tz_b (F240 (sc) (15 : Int))
          have q337 : F326 (sc) (7 : Int) = F (sc) (7 : Int) := ((show F326 (sc) (7 : Int) = F278 (sc) (7 : Int) from hM328 _ _ ho315.1 (own_z ho315.1) (by rw [ho315.2]; rfl)).trans ((show F278 (sc) (7 : Int) = F240 (sc) (7 : Int) from hM282 _ _ ho268.1 (own_z ho268.1) (by rw [ho268.2]; rfl)).trans q273))
          have q338 : F326 (sc) (14 : Int) = F240 (sc) (14 : Int) := ((show F326 (sc) (14 : Int) = F278 (sc) (14 : Int) from hM328 _ _ ho315.1 (own_z ho315.1) (by rw [ho315.2]; rfl)).trans (show F278 (sc) (14 : Int) = F240 (sc) (14 : Int) from hM282 _ _ ho268.1 (own_z ho268.1) (by rw [ho268.2]; rfl)))
          have q339 : lz (F326 (sc) (14 : Int)) = lz (F240 (sc) (14 : Int)) := by rw [q338]
          have q340 := lz_b (F240 (sc) (14 : Int))
          refine cx_vi (c := 10) (a := sc) (st := []) (as := []) rfl rfl rfl ho315.1 ho315.2 (by decide) rfl ⟨rfl, rfl, (Nat.le_of_ble_eq_true rfl)⟩ rfl (k_LScanner_next (dd := d) (R := R) (m := m277) (tg := tg277) (ln := ln277) (F := F326) (me := sc) (hd := by omega) (hC := hC327) (o_me := ho315.1) (t_me := ho315.2) (p_0 := by omega) (p_1 := by omega)) (fun o V_q hq => ?_)
          obtain ⟨F341, rfl, rfl, hC342, hM343, p344, p345, p346, -⟩ := hq
          have hM347 : Fq 0 [(7, 15), (9, 2), (10, 0), (10, 1), (10, 2), (10, 8), (11, 8), (11, 12), (11, 13), (11, 14), (11, 15), (11, 16), (11, 17), (11, 18)] m tg F F341 := Fq_t (ln := ln) (ln1 := ln277) hM332 hX317 hM343 (by decide) (Or.inl rfl)
          have c348 : NP m277 tg277 F341 := NP_q hC327 c330 hM343 rfl rfl
          refine Or.inl ⟨rfl, ?_⟩
          refine jx_ld (pc_q := 123) (l_q := L319) (st_q := [rv (r279)]) rfl (jl_rv g324) ?_
          refine jx_rt (v := some (rv (r279))) rfl rfl rfl rfl rfl jr_are ?_
          have q349 : F341 (sc) (7 : Int) = F (sc) (7 : Int) := ((show F341 (sc) (7 : Int) = F326 (sc) (7 : Int) from hM343 _ _ ho315.1 (own_z ho315.1) (by rw [ho315.2]; rfl)).trans q337)
          have q350 : F341 (pg) (9 : Int) = F (pg) (9 : Int) := ((show F341 (pg) (9 : Int) = F326 (pg) (9 : Int) from hM343 _ _ ho316.1 (own_z ho316.1) (by rw [ho316.2]; rfl)).trans ((show F326 (pg) (9 : Int) = F278 (pg) (9 : Int) from hM328 _ _ ho316.1 (own_z ho316.1) (by rw [ho316.2]; rfl)).trans ((show F278 (pg) (9 : Int) = F240 (pg) (9 : Int) from hM282 _ _ ho269.1 (own_z ho269.1) (by rw [ho269.2]; rfl)).trans q275)))
          have q351 := tz_b (F341 (sc) (15 : Int))
          have q352 := lz_b (F341 (sc) (14 : Int))
          have q353 : F341 (pg) (9 : Int) = F (pg) (9 : Int) := q350
          have q354 : F341 (r279) (14 : Int) = F278 (r279) (14 : Int) := ((show F341 (r279) (14 : Int) = F326 (r279) (14 : Int) from hM343 _ _ b283.1 (own_z b283.1) (by rw [b283.2]; rfl)).trans (show F326 (r279) (14 : Int) = F278 (r279) (14 : Int) from hM328 _ _ b283.1 (own_z b283.1) (by rw [b283.2]; rfl)))
          exact Or.inl ⟨m277, tg277, ln277, F341, (r279), rfl, rfl, hX317, hC342, hM347, ⟨b283.1, b283.2⟩, by omega, by omega, by omega, by omega, by omega, by omega, by omega, by omega, by omega, c348, c318, trivial⟩
        · have _q := h234
          exact absurd h234 (by omega)
    · have _q := h14
      have t355 : tz (F (sc) (15 : Int)) = 1 := tz_p (by omega)
      refine jx_ar (pc_q := 35) (st_q := [.int (i32 (1))]) rfl rfl rfl rfl ?_
      refine jx_ld (pc_q := 36) (l_q := jSto1 L7 2 (.int (i32 (1)))) (st_q := []) rfl rfl ?_
      obtain ⟨L356, eL356⟩ : ∃ q : jL, q = jSto1 L7 2 (.int (i32 (1))) := ⟨_, rfl⟩
      rw [← eL356]
      have g357 : jGet L356 0 = some (rv (me)) := eL356 ▸ jg_nr (by decide) g8
      have g358 : jGet L356 1 = some (rv (bf)) := eL356 ▸ jg_nr (by decide) g9
      have g359 : jGet L356 3 = some (.int (i32 (1))) := eL356 ▸ jg_ne (by decide) g11 rfl
      have g360 : jGet L356 2 = some (.int (i32 (1))) := eL356 ▸ jg_eq
      clear eL356
      refine jx_ld (pc_q := 37) (l_q := L356) (st_q := [rv (me)]) rfl (jl_rvn g357) ?_
      refine cx_gr (pc_q := 40) (c := 8) (q := 1) (v := sc) rfl rfl (by decide) (by decide) rfl rfl o_me t_me e_sc ?_
      have q361 := tz_b (F (sc) (15 : Int))
      have q362 := lz_b (F (sc) (14 : Int))
      refine cx_vi (c := 10) (a := sc) (st := []) (as := []) rfl rfl rfl o_sc t_sc (by decide) rfl ⟨rfl, rfl, (Nat.le_of_ble_eq_true rfl)⟩ rfl (k_LScanner_next (dd := d) (R := R) (m := m) (tg := tg) (ln := ln) (F := F) (me := sc) (hd := by omega) (hC := hC) (o_me := o_sc) (t_me := t_sc) (p_0 := by omega) (p_1 := by omega)) (fun o V_q hq => ?_)
      obtain ⟨F363, rfl, rfl, hC364, hM365, p366, p367, p368, -⟩ := hq
      have hM369 : Fq 0 [(7, 15), (9, 2), (10, 0), (10, 1), (10, 2), (10, 8), (11, 8), (11, 12), (11, 13), (11, 14), (11, 15), (11, 16), (11, 17), (11, 18)] m tg F F363 := Fq_t (ln := ln) (ln1 := ln) hM0 hX0 hM365 (by decide) (Or.inl rfl)
      have c370 : NP m tg F363 := NP_q hC c_NP hM365 rfl rfl
      refine Or.inl ⟨rfl, ?_⟩
      refine jx_go (tg := 82) rfl rfl ?_
      refine jx_ld (pc_q := 83) (l_q := L356) (st_q := [rv (me)]) rfl (jl_rvn g357) ?_
      refine jx_ld (pc_q := 84) (l_q := L356) (st_q := [.int (i32 (1)), rv (me)]) rfl (jl_iloadn g360) ?_
      refine jx_ar (pc_q := 86) (st_q := [.int (i32 (8)), .int (i32 (1)), rv (me)]) rfl rfl rfl rfl ?_
      refine jx_icmp_ne (pc_q := 89) (tg := 94) rfl rfl rfl (by decide) (by decide) (by decide) (by decide) (fun h371 => ?_) (fun h371 => ?_)
      · have _q := h371
        refine jx_ar (pc_q := 96) (st_q := [.int (i32 (18)), rv (me)]) rfl rfl rfl rfl ?_
        have q372 := tz_b (F363 (sc) (15 : Int))
        have q373 : F363 (sc) (7 : Int) = F (sc) (7 : Int) := (show F363 (sc) (7 : Int) = F (sc) (7 : Int) from hM365 _ _ o_sc (own_z o_sc) (by rw [t_sc]; rfl))
        have q374 := lz_b (F363 (sc) (14 : Int))
        have q375 : F363 (pg) (9 : Int) = F (pg) (9 : Int) := (show F363 (pg) (9 : Int) = F (pg) (9 : Int) from hM365 _ _ o_pg (own_z o_pg) (by rw [t_pg]; rfl))
        refine cx_vi (c := 8) (a := me) (st := []) (as := [.int (i32 (18))]) rfl rfl rfl o_me t_me (by decide) rfl ⟨rfl, rfl, (Nat.le_of_ble_eq_true rfl)⟩ rfl (k_LParser_expect (dd := d) (R := R) (m := m) (tg := tg) (ln := ln) (F := F363) (me := me) (tk := 18) (hd := by omega) (hC := hC364) (o_me := o_me) (t_me := t_me) (h_tk := by omega) (sc := sc) (pg := pg) (o_sc := o_sc) (t_sc := t_sc) (e_sc := ((show F363 (me) (1 : Int) = F (me) (1 : Int) from hM365 _ _ o_me (own_z o_me) (by rw [t_me]; rfl)).trans e_sc)) (o_pg := o_pg) (t_pg := t_pg) (e_pg := ((show F363 (me) (0 : Int) = F (me) (0 : Int) from hM365 _ _ o_me (own_z o_me) (by rw [t_me]; rfl)).trans e_pg)) (p_0 := by omega) (p_1 := by omega) (p_2 := by omega) (p_3 := by omega) (c_NP := c370)) (fun o V_q hq => ?_)
        obtain ⟨m376, tg376, ln376, F377, rfl, rfl, hx378, hC379, hM380, p381, p382, p383, p384, p385, p386, p387, c388, c389, -⟩ | ⟨m390, tg390, ln390, F390, x390, rfl, rfl, hx390, hC390, hM390, ho390, ht390, p391, p392, p393, p394, c395, c396, -⟩ := hq
        rotate_left
        ·
          have c397 : NM m m390 tg390 := NM_t NM_0 hx390 c396
          have lm398 := hx390.1
          refine Or.inr (Or.inr (Or.inr ⟨_, _, rfl, cx_exc (c := 15) ho390 ht390 (by decide), rfl, ?_⟩))
          have q399 : F363 (sc) (7 : Int) = F (sc) (7 : Int) := q373
          exact Or.inr ⟨m390, tg390, ln390, F390, x390, rfl, rfl, Ex_t hX0 hx390, hC390, Fq_t (ln := ln) (ln1 := ln) hM369 hX0 hM390 (by decide) (Or.inl rfl), (And.intro ho390 ht390).1, (And.intro ho390 ht390).2, by omega, by omega, by omega, by omega, c395, c397, trivial⟩
        have hM400 : Fq 0 [(7, 15), (9, 2), (10, 0), (10, 1), (10, 2), (10, 8), (11, 8), (11, 12), (11, 13), (11, 14), (11, 15), (11, 16), (11, 17), (11, 18)] m tg F F377 := Fq_t (ln := ln) (ln1 := ln) hM369 hX0 hM380 (by decide) (Or.inl rfl)
        have lm401 := hx378.1
        have lt402 : bf < 64 + (m : Int) := by rcases y_bf with w | w; (· omega); exact w.1.2.1
        have ho403 : own m376 (me) ∧ tg376 (me) = 9 := Ex_o hx378 ⟨o_me, t_me⟩
        have y404 : bf = 0 ∨ (own m376 (bf) ∧ tg376 (bf) = 7) := Ex_z hx378 y_bf
        have ho405 : own m376 (sc) ∧ tg376 (sc) = 11 := Ex_o hx378 ⟨o_sc, t_sc⟩
        have ho406 : own m376 (pg) ∧ tg376 (pg) = 10 := Ex_o hx378 ⟨o_pg, t_pg⟩
        have hX407 := Ex_t hX0 hx378
        have c408 : NM m m376 tg376 := NM_t NM_0 hx378 c389
        refine Or.inl ⟨rfl, ?_⟩
        refine jx_ld (pc_q := 100) (l_q := L356) (st_q := [rv (me)]) rfl (jl_rvn g357) ?_
        refine jx_ld (pc_q := 101) (l_q := L356) (st_q := [.int (i32 (1)), rv (me)]) rfl (jl_iloadn g360) ?_
        refine jx_ld (pc_q := 102) (l_q := L356) (st_q := [.int (i32 (1)), .int (i32 (1)), rv (me)]) rfl (jl_iloadn g359) ?_
        refine jx_ld (pc_q := 103) (l_q := L356) (st_q := [rv (bf), .int (i32 (1)), .int (i32 (1)), rv (me)]) rfl (jl_rvn g358) ?_
        have q409 := tz_b (F377 (sc) (15 : Int))
        have q410 : F377 (sc) (7 : Int) = F (sc) (7 : Int) := ((show F377 (sc) (7 : Int) = F363 (sc) (7 : Int) from hM380 _ _ o_sc (own_z o_sc) (by rw [t_sc]; rfl)).trans q373)
        have q411 := lz_b (F377 (sc) (14 : Int))
        have q412 : F377 (pg) (9 : Int) = F (pg) (9 : Int) := ((show F377 (pg) (9 : Int) = F363 (pg) (9 : Int) from hM380 _ _ o_pg (own_z o_pg) (by rw [t_pg]; rfl)).trans q375)
        have q413 : F377 (me) (2 : Int) = F (me) (2 : Int) := ((show F377 (me) (2 : Int) = F363 (me) (2 : Int) from hM380 _ _ o_me (own_z o_me) (by rw [t_me]; rfl)).trans (show F363 (me) (2 : Int) = F (me) (2 : Int) from hM365 _ _ o_me (own_z o_me) (by rw [t_me]; rfl)))
        refine cx_vi (c := 8) (a := me) (st := []) (as := [.int (i32 (1)), .int (i32 (1)), rv (bf)]) rfl rfl rfl ho403.1 ho403.2 (by decide) rfl ⟨rfl, rfl, (Nat.le_of_ble_eq_true rfl)⟩ rfl (k_LParser_fresh (dd := d) (R := R) (m := m376) (tg := tg376) (ln := ln376) (F := F377) (me := me) (kd := 1) (sz := 1) (si := bf) (hd := by omega) (hC := hC379) (o_me := ho403.1) (t_me := ho403.2) (h_kd := by omega) (h_sz := by omega) (y_si := y404) (sc := sc) (pg := pg) (o_sc := ho405.1) (t_sc := ho405.2) (e_sc := (((show F377 (me) (1 : Int) = F363 (me) (1 : Int) from hM380 _ _ o_me (own_z o_me) (by rw [t_me]; rfl)).trans (show F363 (me) (1 : Int) = F (me) (1 : Int) from hM365 _ _ o_me (own_z o_me) (by rw [t_me]; rfl))).trans e_sc)) (o_pg := ho406.1) (t_pg := ho406.2) (e_pg := (((show F377 (me) (0 : Int) = F363 (me) (0 : Int) from hM380 _ _ o_me (own_z o_me) (by rw [t_me]; rfl)).trans (show F363 (me) (0 : Int) = F (me) (0 : Int) from hM365 _ _ o_me (own_z o_me) (by rw [t_me]; rfl))).trans e_pg)) (p_0 := by omega) (p_1 := by omega) (p_2 := by omega) (c_NP := c388)) (fun o V_q hq => ?_)
        obtain ⟨m414, tg414, ln414, F415, r416, rfl, rfl, hx417, hC418, hM419, b420, p421, p422, p423, p424, p425, p426, p427, p428, p429, p430, p431, p432, p433, p434, c435, c436, -⟩ | ⟨m437, tg437, ln437, F437, x437, rfl, rfl, hx437, hC437, hM437, ho437, ht437, p438, p439, p440, p441, c442, c443, -⟩ := hq
        rotate_left
        ·
          have c444 : NM m m437 tg437 := NM_t c408 hx437 c443
          have lm445 := hx437.1
          refine Or.inr (Or.inr (Or.inr ⟨_, _, rfl, cx_exc (c := 15) ho437 ht437 (by decide), rfl, ?_⟩))
          have q446 : F377 (sc) (7 : Int) = F (sc) (7 : Int) := q410
          exact Or.inr ⟨m437, tg437, ln437, F437, x437, rfl, rfl, Ex_t hX407 hx437, hC437, Fq_t (ln := ln) (ln1 := ln376) hM400 hX407 hM437 (by decide) (Or.inl rfl), (And.intro ho437 ht437).1, (And.intro ho437 ht437).2, by omega, by omega, by omega, by omega, c442, c444, trivial⟩
        have hM447 : Fq 0 [(7, 15), (9, 2), (10, 0), (10, 1), (10, 2), (10, 8), (11, 8), (11, 12), (11, 13), (11, 14), (11, 15), (11, 16), (11, 17), (11, 18)] m tg F F415 := Fq_t (ln := ln) (ln1 := ln376) hM400 hX407 hM419 (by decide) (Or.inl rfl)
        have lm448 := hx417.1
        have lt449 : bf < 64 + (m376 : Int) := by rcases y404 with w | w; (· omega); exact w.1.2.1
        have ho450 : own m414 (me) ∧ tg414 (me) = 9 := Ex_o hx417 ⟨ho403.1, ho403.2⟩
        have y451 : bf = 0 ∨ (own m414 (bf) ∧ tg414 (bf) = 7) := Ex_z hx417 y404
        have ho452 : own m414 (sc) ∧ tg414 (sc) = 11 := Ex_o hx417 ⟨ho405.1, ho405.2⟩
        have ho453 : own m414 (pg) ∧ tg414 (pg) = 10 := Ex_o hx417 ⟨ho406.1, ho406.2⟩
        have hX454 := Ex_t hX407 hx417
        have c455 : NM m m414 tg414 := NM_t c408 hx417 c436
        refine Or.inr (Or.inl ⟨_, rfl, ?_⟩)
        refine jx_ld (pc_q := 108) (l_q := jSto1 L356 4 (rv (r416))) (st_q := []) rfl (js_rv (by decide)) ?_
        obtain ⟨L456, eL456⟩ : ∃ q : jL, q = jSto1 L356 4 (rv (r416)) := ⟨_, rfl⟩
        rw [← eL456]
        have g457 : jGet L456 0 = some (rv (me)) := eL456 ▸ jg_nr (by decide) g357
        have g458 : jGet L456 1 = some (rv (bf)) := eL456 ▸ jg_nr (by decide) g358
        have g459 : jGet L456 3 = some (.int (i32 (1))) := eL456 ▸ jg_ne (by decide) g359 rfl
        have g460 : jGet L456 2 = some (.int (i32 (1))) := eL456 ▸ jg_ne (by decide) g360 rfl
        have g461 : jGet L456 4 = some (rv (r416)) := eL456 ▸ jg_eq
        clear eL456
        refine jx_ld (pc_q := 109) (l_q := L456) (st_q := [rv (me)]) rfl (jl_rvn g457) ?_
        refine jx_ld (pc_q := 111) (l_q := L456) (st_q := [rv (r416), rv (me)]) rfl (jl_rv g461) ?_
        have q462 : F415 (me) (2 : Int) = F (me) (2 : Int) := ((show F415 (me) (2 : Int) = F377 (me) (2 : Int) from hM419 _ _ ho403.1 (own_z ho403.1) (by rw [ho403.2]; rfl)).trans q413)
        refine cx_vi (c := 8) (a := me) (st := []) (as := [rv (r416)]) rfl rfl rfl ho450.1 ho450.2 (by decide) rfl ⟨rfl, rfl, (Nat.le_of_ble_eq_true rfl)⟩ rfl (k_LParser_show (dd := d) (R := R) (m := m414) (tg := tg414) (ln := ln414) (F := F415) (me := me) (nm := r416) (hd := by omega) (hC := hC418) (o_me := ho450.1) (t_me := ho450.2) (o_nm := b420.1) (t_nm := b420.2) (sc := sc) (pg := pg) (o_sc := ho452.1) (t_sc := ho452.2) (e_sc := (((show F415 (me) (1 : Int) = F377 (me) (1 : Int) from hM419 _ _ ho403.1 (own_z ho403.1) (by rw [ho403.2]; rfl)).trans ((show F377 (me) (1 : Int) = F363 (me) (1 : Int) from hM380 _ _ o_me (own_z o_me) (by rw [t_me]; rfl)).trans (show F363 (me) (1 : Int) = F (me) (1 : Int) from hM365 _ _ o_me (own_z o_me) (by rw [t_me]; rfl)))).trans e_sc)) (o_pg := ho453.1) (t_pg := ho453.2) (e_pg := (((show F415 (me) (0 : Int) = F377 (me) (0 : Int) from hM419 _ _ ho403.1 (own_z ho403.1) (by rw [ho403.2]; rfl)).trans ((show F377 (me) (0 : Int) = F363 (me) (0 : Int) from hM380 _ _ o_me (own_z o_me) (by rw [t_me]; rfl)).trans (show F363 (me) (0 : Int) = F (me) (0 : Int) from hM365 _ _ o_me (own_z o_me) (by rw [t_me]; rfl)))).trans e_pg)) (p_0 := by omega) (c_NP := c435)) (fun o V_q hq => ?_)
        obtain ⟨F463, rfl, rfl, hC464, hM465, p466, c467, c468, -⟩ := hq
        have hM469 : Fq 0 [(7, 15), (9, 2), (10, 0), (10, 1), (10, 2), (10, 8), (11, 8), (11, 12), (11, 13), (11, 14), (11, 15), (11, 16), (11, 17), (11, 18)] m tg F F463 := Fq_t (ln := ln) (ln1 := ln414) hM447 hX454 hM465 (by decide) (Or.inl rfl)
        refine Or.inl ⟨rfl, ?_⟩
        refine jx_ld (pc_q := 115) (l_q := L456) (st_q := [rv (me)]) rfl (jl_rvn g457) ?_
        refine cx_gr (pc_q := 118) (c := 8) (q := 1) (v := sc) rfl rfl (by decide) (by decide) rfl rfl ho450.1 ho450.2 (((show F463 (me) (1 : Int) = F415 (me) (1 : Int) from hM465 _ _ ho450.1 (own_z ho450.1) (by rw [ho450.2]; rfl)).trans ((show F415 (me) (1 : Int) = F377 (me) (1 : Int) from hM419 _ _ ho403.1 (own_z ho403.1) (by rw [ho403.2]; rfl)).trans ((show F377 (me) (1 : Int) = F363 (me) (1 : Int) from hM380 _ _ o_me (own_z o_me) (by rw [t_me]; rfl)).trans (show F363 (me) (1 : Int) = F (me) (1 : Int) from hM365 _ _ o_me (own_z o_me) (by rw [t_me]; rfl))))).trans e_sc) ?_
        have q470 : F463 (sc) (8 : Int) = F377 (sc) (8 : Int) := ((show F463 (sc) (8 : Int) = F415 (sc) (8 : Int) from hM465 _ _ ho452.1 (own_z ho452.1) (by rw [ho452.2]; rfl)).trans (show F415 (sc) (8 : Int) = F377 (sc) (8 : Int) from hM419 _ _ ho405.1 (own_z ho405.1) (by rw [ho405.2]; rfl)))
        have q471 : F463 (sc) (15 : Int) = F377 (sc) (15 : Int) := ((show F463 (sc) (15 : Int) = F415 (sc) (15 : Int) from hM465 _ _ ho452.1 (own_z ho452.1) (by rw [ho452.2]; rfl)).trans (show F415 (sc) (15 : Int) = F377 (sc) (15 : Int) from hM419 _ _ ho405.1 (own_z ho405.1) (by rw [ho405.2]; rfl)))
        have q472 : tz (F463 (sc) (15 : Int)) = tz (F377 (sc) (15 : Int)) := by rw [q471]
        have q473 := tz_b (F377 (sc) (15 : Int))
        have q474 : F463 (sc) (7 : Int) = F (sc) (7 : Int) := ((show F463 (sc) (7 : Int) = F415 (sc) (7 : Int) from hM465 _ _ ho452.1 (own_z ho452.1) (by rw [ho452.2]; rfl)).trans ((show F415 (sc) (7 : Int) = F377 (sc) (7 : Int) from hM419 _ _ ho405.1 (own_z ho405.1) (by rw [ho405.2]; rfl)).trans q410))
        have q475 : F463 (sc) (14 : Int) = F377 (sc) (14 : Int) := ((show F463 (sc) (14 : Int) = F415 (sc) (14 : Int) from hM465 _ _ ho452.1 (own_z ho452.1) (by rw [ho452.2]; rfl)).trans (show F415 (sc) (14 : Int) = F377 (sc) (14 : Int) from hM419 _ _ ho405.1 (own_z ho405.1) (by rw [ho405.2]; rfl)))
        have q476 : lz (F463 (sc) (14 : Int)) = lz (F377 (sc) (14 : Int)) := by rw [q475]
        have q477 := lz_b (F377 (sc) (14 : Int))
        refine cx_vi (c := 10) (a := sc) (st := []) (as := []) rfl rfl rfl ho452.1 ho452.2 (by decide) rfl ⟨rfl, rfl, (Nat.le_of_ble_eq_true rfl)⟩ rfl (k_LScanner_next (dd := d) (R := R) (m := m414) (tg := tg414) (ln := ln414) (F := F463) (me := sc) (hd := by omega) (hC := hC464) (o_me := ho452.1) (t_me := ho452.2) (p_0 := by omega) (p_1 := by omega)) (fun o V_q hq => ?_)
        obtain ⟨F478, rfl, rfl, hC479, hM480, p481, p482, p483, -⟩ := hq
        have hM484 : Fq 0 [(7, 15), (9, 2), (10, 0), (10, 1), (10, 2), (10, 8), (11, 8), (11, 12), (11, 13), (11, 14), (11, 15), (11, 16), (11, 17), (11, 18)] m tg F F478 := Fq_t (ln := ln) (ln1 := ln414) hM469 hX454 hM480 (by decide) (Or.inl rfl)
        have c485 : NP m414 tg414 F478 := NP_q hC464 c467 hM480 rfl rfl
        refine Or.inl ⟨rfl, ?_⟩
        refine jx_ld (pc_q := 123) (l_q := L456) (st_q := [rv (r416)]) rfl (jl_rv g461) ?_
        refine jx_rt (v := some (rv (r416))) rfl rfl rfl rfl rfl jr_are ?_
        have q486 : F478 (sc) (7 : Int) = F (sc) (7 : Int) := ((show F478 (sc) (7 : Int) = F463 (sc) (7 : Int) from hM480 _ _ ho452.1 (own_z ho452.1) (by rw [ho452.2]; rfl)).trans q474)
        have q487 : F478 (pg) (9 : Int) = F (pg) (9 : Int) := ((show F478 (pg) (9 : Int) = F463 (pg) (9 : Int) from hM480 _ _ ho453.1 (own_z ho453.1) (by rw [ho453.2]; rfl)).trans ((show F463 (pg) (9 : Int) = F415 (pg) (9 : Int) from hM465 _ _ ho453.1 (own_z ho453.1) (by rw [ho453.2]; rfl)).trans ((show F415 (pg) (9 : Int) = F377 (pg) (9 : Int) from hM419 _ _ ho406.1 (own_z ho406.1) (by rw [ho406.2]; rfl)).trans q412)))
        have q488 := tz_b (F478 (sc) (15 : Int))
        have q489 := lz_b (F478 (sc) (14 : Int))
        have q490 : F478 (pg) (9 : Int) = F (pg) (9 : Int) := q487
        have q491 : F478 (r416) (14 : Int) = F415 (r416) (14 : Int) := ((show F478 (r416) (14 : Int) = F463 (r416) (14 : Int) from hM480 _ _ b420.1 (own_z b420.1) (by rw [b420.2]; rfl)).trans (show F463 (r416) (14 : Int) = F415 (r416) (14 : Int) from hM465 _ _ b420.1 (own_z b420.1) (by rw [b420.2]; rfl)))
        exact Or.inl ⟨m414, tg414, ln414, F478, (r416), rfl, rfl, hX454, hC479, hM484, ⟨b420.1, b420.2⟩, by omega, by omega, by omega, by omega, by omega, by omega, by omega, by omega, by omega, c485, c455, trivial⟩
      · have _q := h371
        exact absurd h371 (by omega)
  · have _q := h13
    have t492 : tz (F (sc) (15 : Int)) = 1 := tz_p (by omega)
    refine jx_ar (pc_q := 18) (st_q := [.int (i32 (8))]) rfl rfl rfl rfl ?_
    refine jx_ld (pc_q := 19) (l_q := jSto1 L7 2 (.int (i32 (8)))) (st_q := []) rfl rfl ?_
    obtain ⟨L493, eL493⟩ : ∃ q : jL, q = jSto1 L7 2 (.int (i32 (8))) := ⟨_, rfl⟩
    rw [← eL493]
    have g494 : jGet L493 0 = some (rv (me)) := eL493 ▸ jg_nr (by decide) g8
    have g495 : jGet L493 1 = some (rv (bf)) := eL493 ▸ jg_nr (by decide) g9
    have g496 : jGet L493 3 = some (.int (i32 (1))) := eL493 ▸ jg_ne (by decide) g11 rfl
    have g497 : jGet L493 2 = some (.int (i32 (8))) := eL493 ▸ jg_eq
    clear eL493
    refine jx_go (tg := 82) rfl rfl ?_
    refine jx_ld (pc_q := 83) (l_q := L493) (st_q := [rv (me)]) rfl (jl_rvn g494) ?_
    refine jx_ld (pc_q := 84) (l_q := L493) (st_q := [.int (i32 (8)), rv (me)]) rfl (jl_iloadn g497) ?_
    refine jx_ar (pc_q := 86) (st_q := [.int (i32 (8)), .int (i32 (8)), rv (me)]) rfl rfl rfl rfl ?_
    refine jx_icmp_ne (pc_q := 89) (tg := 94) rfl rfl rfl (by decide) (by decide) (by decide) (by decide) (fun h498 => ?_) (fun h498 => ?_)
    · have _q := h498
      exact absurd h498 (by omega)
    · have _q := h498
      refine jx_ar (pc_q := 91) (st_q := [.int (i32 (19)), rv (me)]) rfl rfl rfl rfl ?_
      refine jx_go (tg := 96) rfl rfl ?_
      have q499 := tz_b (F (sc) (15 : Int))
      have q500 := lz_b (F (sc) (14 : Int))
      refine cx_vi (c := 8) (a := me) (st := []) (as := [.int (i32 (19))]) rfl rfl rfl o_me t_me (by decide) rfl ⟨rfl, rfl, (Nat.le_of_ble_eq_true rfl)⟩ rfl (k_LParser_expect (dd := d) (R := R) (m := m) (tg := tg) (ln := ln) (F := F) (me := me) (tk := 19) (hd := by omega) (hC := hC) (o_me := o_me) (t_me := t_me) (h_tk := by omega) (sc := sc) (pg := pg) (o_sc := o_sc) (t_sc := t_sc) (e_sc := e_sc) (o_pg := o_pg) (t_pg := t_pg) (e_pg := e_pg) (p_0 := by omega) (p_1 := by omega) (p_2 := by omega) (p_3 := by omega) (c_NP := c_NP)) (fun o V_q hq => ?_)
      obtain ⟨m501, tg501, ln501, F502, rfl, rfl, hx503, hC504, hM505, p506, p507, p508, p509, p510, p511, p512, c513, c514, -⟩ | ⟨m515, tg515, ln515, F515, x515, rfl, rfl, hx515, hC515, hM515, ho515, ht515, p516, p517, p518, p519, c520, c521, -⟩ := hq
      rotate_left
      ·
        have c522 : NM m m515 tg515 := NM_t NM_0 hx515 c521
        have lm523 := hx515.1
        refine Or.inr (Or.inr (Or.inr ⟨_, _, rfl, cx_exc (c := 15) ho515 ht515 (by decide), rfl, ?_⟩))
        exact Or.inr ⟨m515, tg515, ln515, F515, x515, rfl, rfl, Ex_t hX0 hx515, hC515, Fq_t (ln := ln) (ln1 := ln) hM0 hX0 hM515 (by decide) (Or.inl rfl), (And.intro ho515 ht515).1, (And.intro ho515 ht515).2, by omega, by omega, by omega, by omega, c520, c522, trivial⟩
      have hM524 : Fq 0 [(7, 15), (9, 2), (10, 0), (10, 1), (10, 2), (10, 8), (11, 8), (11, 12), (11, 13), (11, 14), (11, 15), (11, 16), (11, 17), (11, 18)] m tg F F502 := Fq_t (ln := ln) (ln1 := ln) hM0 hX0 hM505 (by decide) (Or.inl rfl)
      have lm525 := hx503.1
      have lt526 : bf < 64 + (m : Int) := by rcases y_bf with w | w; (· omega); exact w.1.2.1
      have ho527 : own m501 (me) ∧ tg501 (me) = 9 := Ex_o hx503 ⟨o_me, t_me⟩
      have y528 : bf = 0 ∨ (own m501 (bf) ∧ tg501 (bf) = 7) := Ex_z hx503 y_bf
      have ho529 : own m501 (sc) ∧ tg501 (sc) = 11 := Ex_o hx503 ⟨o_sc, t_sc⟩
      have ho530 : own m501 (pg) ∧ tg501 (pg) = 10 := Ex_o hx503 ⟨o_pg, t_pg⟩
      have hX531 := Ex_t hX0 hx503
      have c532 : NM m m501 tg501 := NM_t NM_0 hx503 c514
      refine Or.inl ⟨rfl, ?_⟩
      refine jx_ld (pc_q := 100) (l_q := L493) (st_q := [rv (me)]) rfl (jl_rvn g494) ?_
      refine jx_ld (pc_q := 101) (l_q := L493) (st_q := [.int (i32 (8)), rv (me)]) rfl (jl_iloadn g497) ?_
      refine jx_ld (pc_q := 102) (l_q := L493) (st_q := [.int (i32 (1)), .int (i32 (8)), rv (me)]) rfl (jl_iloadn g496) ?_
      refine jx_ld (pc_q := 103) (l_q := L493) (st_q := [rv (bf), .int (i32 (1)), .int (i32 (8)), rv (me)]) rfl (jl_rvn g495) ?_
      have q533 := tz_b (F502 (sc) (15 : Int))
      have q534 : F502 (sc) (7 : Int) = F (sc) (7 : Int) := (show F502 (sc) (7 : Int) = F (sc) (7 : Int) from hM505 _ _ o_sc (own_z o_sc) (by rw [t_sc]; rfl))
      have q535 := lz_b (F502 (sc) (14 : Int))
      have q536 : F502 (pg) (9 : Int) = F (pg) (9 : Int) := (show F502 (pg) (9 : Int) = F (pg) (9 : Int) from hM505 _ _ o_pg (own_z o_pg) (by rw [t_pg]; rfl))
      have q537 : F502 (me) (2 : Int) = F (me) (2 : Int) := (show F502 (me) (2 : Int) = F (me) (2 : Int) from hM505 _ _ o_me (own_z o_me) (by rw [t_me]; rfl))
      refine cx_vi (c := 8) (a := me) (st := []) (as := [.int (i32 (8)), .int (i32 (1)), rv (bf)]) rfl rfl rfl ho527.1 ho527.2 (by decide) rfl ⟨rfl, rfl, (Nat.le_of_ble_eq_true rfl)⟩ rfl (k_LParser_fresh (dd := d) (R := R) (m := m501) (tg := tg501) (ln := ln501) (F := F502) (me := me) (kd := 8) (sz := 1) (si := bf) (hd := by omega) (hC := hC504) (o_me := ho527.1) (t_me := ho527.2) (h_kd := by omega) (h_sz := by omega) (y_si := y528) (sc := sc) (pg := pg) (o_sc := ho529.1) (t_sc := ho529.2) (e_sc := ((show F502 (me) (1 : Int) = F (me) (1 : Int) from hM505 _ _ o_me (own_z o_me) (by rw [t_me]; rfl)).trans e_sc)) (o_pg := ho530.1) (t_pg := ho530.2) (e_pg := ((show F502 (me) (0 : Int) = F (me) (0 : Int) from hM505 _ _ o_me (own_z o_me) (by rw [t_me]; rfl)).trans e_pg)) (p_0 := by omega) (p_1 := by omega) (p_2 := by omega) (c_NP := c513)) (fun o V_q hq => ?_)
      obtain ⟨m538, tg538, ln538, F539, r540, rfl, rfl, hx541, hC542, hM543, b544, p545, p546, p547, p548, p549, p550, p551, p552, p553, p554, p555, p556, p557, p558, c559, c560, -⟩ | ⟨m561, tg561, ln561, F561, x561, rfl, rfl, hx561, hC561, hM561, ho561, ht561, p562, p563, p564, p565, c566, c567, -⟩ := hq
      rotate_left
      ·
        have c568 : NM m m561 tg561 := NM_t c532 hx561 c567
        have lm569 := hx561.1
        refine Or.inr (Or.inr (Or.inr ⟨_, _, rfl, cx_exc (c := 15) ho561 ht561 (by decide), rfl, ?_⟩))
        have q570 : F502 (sc) (7 : Int) = F (sc) (7 : Int) := q534
        exact Or.inr ⟨m561, tg561, ln561, F561, x561, rfl, rfl, Ex_t hX531 hx561, hC561, Fq_t (ln := ln) (ln1 := ln501) hM524 hX531 hM561 (by decide) (Or.inl rfl), (And.intro ho561 ht561).1, (And.intro ho561 ht561).2, by omega, by omega, by omega, by omega, c566, c568, trivial⟩
      have hM571 : Fq 0 [(7, 15), (9, 2), (10, 0), (10, 1), (10, 2), (10, 8), (11, 8), (11, 12), (11, 13), (11, 14), (11, 15), (11, 16), (11, 17), (11, 18)] m tg F F539 := Fq_t (ln := ln) (ln1 := ln501) hM524 hX531 hM543 (by decide) (Or.inl rfl)
      have lm572 := hx541.1
      have lt573 : bf < 64 + (m501 : Int) := by rcases y528 with w | w; (· omega); exact w.1.2.1
      have ho574 : own m538 (me) ∧ tg538 (me) = 9 := Ex_o hx541 ⟨ho527.1, ho527.2⟩
      have y575 : bf = 0 ∨ (own m538 (bf) ∧ tg538 (bf) = 7) := Ex_z hx541 y528
      have ho576 : own m538 (sc) ∧ tg538 (sc) = 11 := Ex_o hx541 ⟨ho529.1, ho529.2⟩
      have ho577 : own m538 (pg) ∧ tg538 (pg) = 10 := Ex_o hx541 ⟨ho530.1, ho530.2⟩
      have hX578 := Ex_t hX531 hx541
      have c579 : NM m m538 tg538 := NM_t c532 hx541 c560
      refine Or.inr (Or.inl ⟨_, rfl, ?_⟩)
      refine jx_ld (pc_q := 108) (l_q := jSto1 L493 4 (rv (r540))) (st_q := []) rfl (js_rv (by decide)) ?_
      obtain ⟨L580, eL580⟩ : ∃ q : jL, q = jSto1 L493 4 (rv (r540)) := ⟨_, rfl⟩
      rw [← eL580]
      have g581 : jGet L580 0 = some (rv (me)) := eL580 ▸ jg_nr (by decide) g494
      have g582 : jGet L580 1 = some (rv (bf)) := eL580 ▸ jg_nr (by decide) g495
      have g583 : jGet L580 3 = some (.int (i32 (1))) := eL580 ▸ jg_ne (by decide) g496 rfl
      have g584 : jGet L580 2 = some (.int (i32 (8))) := eL580 ▸ jg_ne (by decide) g497 rfl
      have g585 : jGet L580 4 = some (rv (r540)) := eL580 ▸ jg_eq
      clear eL580
      refine jx_ld (pc_q := 109) (l_q := L580) (st_q := [rv (me)]) rfl (jl_rvn g581) ?_
      refine jx_ld (pc_q := 111) (l_q := L580) (st_q := [rv (r540), rv (me)]) rfl (jl_rv g585) ?_
      have q586 : F539 (me) (2 : Int) = F (me) (2 : Int) := ((show F539 (me) (2 : Int) = F502 (me) (2 : Int) from hM543 _ _ ho527.1 (own_z ho527.1) (by rw [ho527.2]; rfl)).trans q537)
      refine cx_vi (c := 8) (a := me) (st := []) (as := [rv (r540)]) rfl rfl rfl ho574.1 ho574.2 (by decide) rfl ⟨rfl, rfl, (Nat.le_of_ble_eq_true rfl)⟩ rfl (k_LParser_show (dd := d) (R := R) (m := m538) (tg := tg538) (ln := ln538) (F := F539) (me := me) (nm := r540) (hd := by omega) (hC := hC542) (o_me := ho574.1) (t_me := ho574.2) (o_nm := b544.1) (t_nm := b544.2) (sc := sc) (pg := pg) (o_sc := ho576.1) (t_sc := ho576.2) (e_sc := (((show F539 (me) (1 : Int) = F502 (me) (1 : Int) from hM543 _ _ ho527.1 (own_z ho527.1) (by rw [ho527.2]; rfl)).trans (show F502 (me) (1 : Int) = F (me) (1 : Int) from hM505 _ _ o_me (own_z o_me) (by rw [t_me]; rfl))).trans e_sc)) (o_pg := ho577.1) (t_pg := ho577.2) (e_pg := (((show F539 (me) (0 : Int) = F502 (me) (0 : Int) from hM543 _ _ ho527.1 (own_z ho527.1) (by rw [ho527.2]; rfl)).trans (show F502 (me) (0 : Int) = F (me) (0 : Int) from hM505 _ _ o_me (own_z o_me) (by rw [t_me]; rfl))).trans e_pg)) (p_0 := by omega) (c_NP := c559)) (fun o V_q hq => ?_)
      obtain ⟨F587, rfl, rfl, hC588, hM589, p590, c591, c592, -⟩ := hq
      have hM593 : Fq 0 [(7, 15), (9, 2), (10, 0), (10, 1), (10, 2), (10, 8), (11, 8), (11, 12), (11, 13), (11, 14), (11, 15), (11, 16), (11, 17), (11, 18)] m tg F F587 := Fq_t (ln := ln) (ln1 := ln538) hM571 hX578 hM589 (by decide) (Or.inl rfl)
      refine Or.inl ⟨rfl, ?_⟩
      refine jx_ld (pc_q := 115) (l_q := L580) (st_q := [rv (me)]) rfl (jl_rvn g581) ?_
      refine cx_gr (pc_q := 118) (c := 8) (q := 1) (v := sc) rfl rfl (by decide) (by decide) rfl rfl ho574.1 ho574.2 (((show F587 (me) (1 : Int) = F539 (me) (1 : Int) from hM589 _ _ ho574.1 (own_z ho574.1) (by rw [ho574.2]; rfl)).trans ((show F539 (me) (1 : Int) = F502 (me) (1 : Int) from hM543 _ _ ho527.1 (own_z ho527.1) (by rw [ho527.2]; rfl)).trans (show F502 (me) (1 : Int) = F (me) (1 : Int) from hM505 _ _ o_me (own_z o_me) (by rw [t_me]; rfl)))).trans e_sc) ?_
      have q594 : F587 (sc) (8 : Int) = F502 (sc) (8 : Int) := ((show F587 (sc) (8 : Int) = F539 (sc) (8 : Int) from hM589 _ _ ho576.1 (own_z ho576.1) (by rw [ho576.2]; rfl)).trans (show F539 (sc) (8 : Int) = F502 (sc) (8 : Int) from hM543 _ _ ho529.1 (own_z ho529.1) (by rw [ho529.2]; rfl)))
      have q595 : F587 (sc) (15 : Int) = F502 (sc) (15 : Int) := ((show F587 (sc) (15 : Int) = F539 (sc) (15 : Int) from hM589 _ _ ho576.1 (own_z ho576.1) (by rw [ho576.2]; rfl)).trans (show F539 (sc) (15 : Int) = F502 (sc) (15 : Int) from hM543 _ _ ho529.1 (own_z ho529.1) (by rw [ho529.2]; rfl)))
      have q596 : tz (F587 (sc) (15 : Int)) = tz (F502 (sc) (15 : Int)) := by rw [q595]
      have q597 := tz_b (F502 (sc) (15 : Int))
      have q598 : F587 (sc) (7 : Int) = F (sc) (7 : Int) := ((show F587 (sc) (7 : Int) = F539 (sc) (7 : Int) from hM589 _ _ ho576.1 (own_z ho576.1) (by rw [ho576.2]; rfl)).trans ((show F539 (sc) (7 : Int) = F502 (sc) (7 : Int) from hM543 _ _ ho529.1 (own_z ho529.1) (by rw [ho529.2]; rfl)).trans q534))
      have q599 : F587 (sc) (14 : Int) = F502 (sc) (14 : Int) := ((show F587 (sc) (14 : Int) = F539 (sc) (14 : Int) from hM589 _ _ ho576.1 (own_z ho576.1) (by rw [ho576.2]; rfl)).trans (show F539 (sc) (14 : Int) = F502 (sc) (14 : Int) from hM543 _ _ ho529.1 (own_z ho529.1) (by rw [ho529.2]; rfl)))
      have q600 : lz (F587 (sc) (14 : Int)) = lz (F502 (sc) (14 : Int)) := by rw [q599]
      have q601 := lz_b (F502 (sc) (14 : Int))
      refine cx_vi (c := 10) (a := sc) (st := []) (as := []) rfl rfl rfl ho576.1 ho576.2 (by decide) rfl ⟨rfl, rfl, (Nat.le_of_ble_eq_true rfl)⟩ rfl (k_LScanner_next (dd := d) (R := R) (m := m538) (tg := tg538) (ln := ln538) (F := F587) (me := sc) (hd := by omega) (hC := hC588) (o_me := ho576.1) (t_me := ho576.2) (p_0 := by omega) (p_1 := by omega)) (fun o V_q hq => ?_)
      obtain ⟨F602, rfl, rfl, hC603, hM604, p605, p606, p607, -⟩ := hq
      have hM608 : Fq 0 [(7, 15), (9, 2), (10, 0), (10, 1), (10, 2), (10, 8), (11, 8), (11, 12), (11, 13), (11, 14), (11, 15), (11, 16), (11, 17), (11, 18)] m tg F F602 := Fq_t (ln := ln) (ln1 := ln538) hM593 hX578 hM604 (by decide) (Or.inl rfl)
      have c609 : NP m538 tg538 F602 := NP_q hC588 c591 hM604 rfl rfl
      refine Or.inl ⟨rfl, ?_⟩
      refine jx_ld (pc_q := 123) (l_q := L580) (st_q := [rv (r540)]) rfl (jl_rv g585) ?_
      refine jx_rt (v := some (rv (r540))) rfl rfl rfl rfl rfl jr_are ?_
      have q610 : F602 (sc) (7 : Int) = F (sc) (7 : Int) := ((show F602 (sc) (7 : Int) = F587 (sc) (7 : Int) from hM604 _ _ ho576.1 (own_z ho576.1) (by rw [ho576.2]; rfl)).trans q598)
      have q611 : F602 (pg) (9 : Int) = F (pg) (9 : Int) := ((show F602 (pg) (9 : Int) = F587 (pg) (9 : Int) from hM604 _ _ ho577.1 (own_z ho577.1) (by rw [ho577.2]; rfl)).trans ((show F587 (pg) (9 : Int) = F539 (pg) (9 : Int) from hM589 _ _ ho577.1 (own_z ho577.1) (by rw [ho577.2]; rfl)).trans ((show F539 (pg) (9 : Int) = F502 (pg) (9 : Int) from hM543 _ _ ho530.1 (own_z ho530.1) (by rw [ho530.2]; rfl)).trans q536)))
      have q612 := tz_b (F602 (sc) (15 : Int))
      have q613 := lz_b (F602 (sc) (14 : Int))
      have q614 : F602 (pg) (9 : Int) = F (pg) (9 : Int) := q611
      have q615 : F602 (r540) (14 : Int) = F539 (r540) (14 : Int) := ((show F602 (r540) (14 : Int) = F587 (r540) (14 : Int) from hM604 _ _ b544.1 (own_z b544.1) (by rw [b544.2]; rfl)).trans (show F587 (r540) (14 : Int) = F539 (r540) (14 : Int) from hM589 _ _ b544.1 (own_z b544.1) (by rw [b544.2]; rfl)))
      exact Or.inl ⟨m538, tg538, ln538, F602, (r540), rfl, rfl, hX578, hC603, hM608, ⟨b544.1, b544.2⟩, by omega, by omega, by omega, by omega, by omega, by omega, by omega, by omega, by omega, c609, c579, trivial⟩
set_option maxRecDepth 20000 in
set_option maxHeartbeats 4000000 in
theorem k_LParser_readParameters_at_16 {X : jX} {d : Nat} {R : Nat → jC} {m : Nat} {tg ln : Int → Int} {F : Int → Int → Int} {me pr : Int} (hd : 32 ≤ d + 1) (hC : HC 0 m tg ln F) {sc pg : Int} (o_sc : own m sc) (t_sc : tg sc = 11) (e_sc : F me (1 : Int) = sc) (o_pg : own m pg) (t_pg : tg pg = 10) (e_pg : F me (0 : Int) = pg) (o_me : own m me) (t_me : tg me = 9) (o_pr : own m pr) (t_pr : tg pr = 7) (p_0 : F sc (8 : Int) + 2 * tz (F sc (15 : Int)) ≤ F sc (7 : Int) + 1) (p_1 : F sc (8 : Int) + 2 * lz (F sc (14 : Int)) ≤ F sc (7 : Int) + 1) (p_2 : F sc (8 : Int) ≤ F sc (7 : Int)) (p_3 : F pr (13 : Int) = 0) (c_NP : NP m tg F) : ∀ (mm : Nat) (L : jL) (mx : Nat) (tgx lnx : Int → Int) (Fx : Int → Int → Int) (k la : Int), (6 - k).toNat = mm → jGet L 0 = some (rv (me)) → jGet L 1 = some (rv (pr)) → jGet L 2 = some (rv (F (me) (2 : Int))) → jGet L 4 = some (.int (i32 k)) → jGet L 3 = some (rv la) → Ex m tg ln mx tgx lnx → HC 0 mx tgx lnx Fx → Fq pr [(7, 15), (9, 2), (10, 0), (10, 1), (10, 2), (10, 8), (11, 8), (11, 12), (11, 13), (11, 14), (11, 15), (11, 16), (11, 17), (11, 18)] m tg F Fx → ((-2147483648 : Int) ≤ k ∧ k ≤ 2147483647) → (la = 0 ∨ (own mx la ∧ tgx la = 7)) → (Fx sc (8 : Int) + 2 * tz (Fx sc (15 : Int)) ≤ F sc (7 : Int) + 1) → (Fx sc (8 : Int) + 2 * lz (Fx sc (14 : Int)) ≤ F sc (7 : Int) + 1) → (Fx sc (8 : Int) ≤ F sc (7 : Int)) → (Fx pg (9 : Int) ≤ F pg (9 : Int) + ((mx : Int) - (m : Int))) → (F sc (8 : Int) ≤ Fx sc (8 : Int)) → (szD mx tgx lnx = szD m tg ln + 25 * ((mx : Int) - (m : Int))) → ((mx : Int) ≤ (m : Int) + (Fx sc (8 : Int) - F sc (8 : Int)) + (0)) → (0 ≤ k) → (la ≠ 0 ∨ Fx pr (13 : Int) = 0) → (la = 0 ∨ (64 + (m : Int) ≤ la ∧ Fx la (14 : Int) = 0)) → (NP mx tgx Fx) → (NM m mx tgx) → wj X d jm173 (16, L, [], cV R mx tgx lnx Fx) (fun o V_q => (∃ (m_q : Nat) (tg_q ln_q : Int → Int) (F_q : Int → Int → Int), V_q = cV R m_q tg_q ln_q F_q ∧ o = .inl none ∧ Ex m tg ln m_q tg_q ln_q ∧ HC 0 m_q tg_q ln_q F_q ∧ Fq pr [(7, 15), (9, 2), (10, 0), (10, 1), (10, 2), (10, 8), (11, 8), (11, 12), (11, 13), (11, 14), (11, 15), (11, 16), (11, 17), (11, 18)] m tg F F_q ∧ (F_q sc (8 : Int) + 2 * tz (F_q sc (15 : Int)) ≤ F sc (7 : Int) + 1) ∧ (F_q sc (8 : Int) + 2 * lz (F_q sc (14 : Int)) ≤ F sc (7 : Int) + 1) ∧ (F_q sc (8 : Int) ≤ F sc (7 : Int)) ∧ (F sc (8 : Int) ≤ F_q sc (8 : Int)) ∧ (szD m_q tg_q ln_q = szD m tg ln + 25 * ((m_q : Int) - (m : Int))) ∧ ((m_q : Int) ≤ (m : Int) + (F_q sc (8 : Int) - F sc (8 : Int)) + (0)) ∧ (F_q pg (9 : Int) ≤ F pg (9 : Int) + ((m_q : Int) - (m : Int))) ∧ (NP m_q tg_q F_q) ∧ (NM m m_q tg_q) ∧ True) ∨ (∃ (m_q : Nat) (tg_q ln_q : Int → Int) (F_q : Int → Int → Int) (x : Nat), V_q = cV R m_q tg_q ln_q F_q ∧ o = .inr x ∧ Ex m tg ln m_q tg_q ln_q ∧ HC 0 m_q tg_q ln_q F_q ∧ Fq pr [(7, 15), (9, 2), (10, 0), (10, 1), (10, 2), (10, 8), (11, 8), (11, 12), (11, 13), (11, 14), (11, 15), (11, 16), (11, 17), (11, 18)] m tg F F_q ∧ (own m_q (x : Int)) ∧ (tg_q (x : Int) = 16) ∧ (F_q pg (0 : Int) ≠ 0) ∧ (szD m_q tg_q ln_q = szD m tg ln + 25 * ((m_q : Int) - (m : Int))) ∧ ((m_q : Int) ≤ (m : Int) + (F_q sc (8 : Int) - F sc (8 : Int)) + (1)) ∧ (F_q sc (8 : Int) ≤ F sc (7 : Int) + 1) ∧ (NP m_q tg_q F_q) ∧ (NM m m_q tg_q) ∧ True)) := by
  intro mm
  induction mm using Nat.strongRecOn with
  | ind mm ih =>
    intro L mx tgx lnx Fx k la hmm gL_0 gL_1 gL_2 gL_4 gL_3 hXx hCx hMx rx_k yx_la iv_0 iv_1 iv_2 iv_3 iv_4 iv_5 iv_6 iv_7 iv_8 iv_9 cx_NP cx_NM
    have hX0 : Ex m tg ln m tg ln := Ex_r
    have lm1 := hXx.1
    have lt2 : pr < 64 + (m : Int) := o_pr.2.1
    have ho3 : own mx (me) ∧ tgx (me) = 9 := Ex_o hXx ⟨o_me, t_me⟩
    have ho4 : own mx (pr) ∧ tgx (pr) = 7 := Ex_o hXx ⟨o_pr, t_pr⟩
    have ho5 : own mx (sc) ∧ tgx (sc) = 11 := Ex_o hXx ⟨o_sc, t_sc⟩
    have ho6 : own mx (pg) ∧ tgx (pg) = 10 := Ex_o hXx ⟨o_pg, t_pg⟩
    have hX7 := Ex_t hX0 hXx
    have y8 : F (me) (2 : Int) = 0 ∨ (own mx (F (me) (2 : Int)) ∧ tgx (F (me) (2 : Int)) = 7) := Ex_z hXx (HC_r (c := 8) (q := 2) hC o_me t_me (by decide) rfl)
    have tb0 := tz_b (F sc (15 : Int))
    have lb0 := lz_b (F sc (14 : Int))
    have tb1 := tz_b (Fx sc (15 : Int))
    have lb1 := lz_b (Fx sc (14 : Int))
    have ob0 : (0 : Int) ≤ F me (3 : Int) ∧ F me (3 : Int) ≤ 8 := HC_i (c := 8) (q := 3) hC o_me t_me (by decide) rfl
    have tp0 : F me (2 : Int) < 64 + (m : Int) := by
      have z : F me (2 : Int) = 0 ∨ (own m (F me (2 : Int)) ∧ tg (F me (2 : Int)) = 7) := HC_r (c := 8) (q := 2) hC o_me t_me (by decide) rfl
      rcases z with w | w
      · omega
      · exact w.1.2.1
    have nz_pr := own_z o_pr
    by_cases h9 : la = 0
    · have _q := h9
      refine jx_ld (pc_q := 18) (l_q := L) (st_q := [.int (i32 (k))]) rfl (jl_iload gL_4) ?_
      refine jx_ar (pc_q := 20) (st_q := [.int (i32 (6)), .int (i32 (k))]) rfl rfl rfl rfl ?_
      refine jx_icmp_ge (pc_q := 23) (tg := 116) rfl rfl rfl (by omega) (by omega) (by decide) (by decide) (fun h10 => ?_) (fun h10 => ?_)
      · have _q := h10
        refine jx_ld (pc_q := 117) (l_q := L) (st_q := [rv (me)]) rfl (jl_rvn gL_0) ?_
        refine jx_ar (pc_q := 119) (st_q := [.int (i32 (55)), rv (me)]) rfl rfl rfl rfl ?_
        have q11 := tz_b (Fx (sc) (15 : Int))
        have q12 : Fx (sc) (7 : Int) = F (sc) (7 : Int) := (show Fx (sc) (7 : Int) = F (sc) (7 : Int) from hMx _ _ o_sc (fun w => by have q1 := ho5.2; rw [w, ho4.2] at q1; exact absurd q1 (by decide)) (by rw [t_sc]; rfl))
        have q13 := lz_b (Fx (sc) (14 : Int))
        have q14 : Fx (pg) (9 : Int) = F (pg) (9 : Int) := (show Fx (pg) (9 : Int) = F (pg) (9 : Int) from hMx _ _ o_pg (fun w => by have q1 := ho6.2; rw [w, ho4.2] at q1; exact absurd q1 (by decide)) (by rw [t_pg]; rfl))
        refine cx_vi (c := 8) (a := me) (st := []) (as := [.int (i32 (55))]) rfl rfl rfl ho3.1 ho3.2 (by decide) rfl ⟨rfl, rfl, (Nat.le_of_ble_eq_true rfl)⟩ rfl (k_LParser_expect (dd := d) (R := R) (m := mx) (tg := tgx) (ln := lnx) (F := Fx) (me := me) (tk := 55) (hd := by omega) (hC := hCx) (o_me := ho3.1) (t_me := ho3.2) (h_tk := by omega) (sc := sc) (pg := pg) (o_sc := ho5.1) (t_sc := ho5.2) (e_sc := ((show Fx (me) (1 : Int) = F (me) (1 : Int) from hMx _ _ o_me (fun w => by have q1 := ho3.2; rw [w, ho4.2] at q1; exact absurd q1 (by decide)) (by rw [t_me]; rfl)).trans e_sc)) (o_pg := ho6.1) (t_pg := ho6.2) (e_pg := ((show Fx (me) (0 : Int) = F (me) (0 : Int) from hMx _ _ o_me (fun w => by have q1 := ho3.2; rw [w, ho4.2] at q1; exact absurd q1 (by decide)) (by rw [t_me]; rfl)).trans e_pg)) (p_0 := by omega) (p_1 := by omega) (p_2 := by omega) (p_3 := by omega) (c_NP := cx_NP)) (fun o V_q hq => ?_)
        obtain ⟨m15, tg15, ln15, F16, rfl, rfl, hx17, hC18, hM19, p20, p21, p22, p23, p24, p25, p26, c27, c28, -⟩ | ⟨m29, tg29, ln29, F29, x29, rfl, rfl, hx29, hC29, hM29, ho29, ht29, p30, p31, p32, p33, c34, c35, -⟩ := hq
        rotate_left
        ·
          have c36 : NM m m29 tg29 := NM_t cx_NM hx29 c35
          have lm37 := hx29.1
          refine Or.inr (Or.inr (Or.inr ⟨_, _, rfl, cx_exc (c := 15) ho29 ht29 (by decide), rfl, ?_⟩))
          have q38 : Fx (sc) (7 : Int) = F (sc) (7 : Int) := (show Fx (sc) (7 : Int) = F (sc) (7 : Int) from hMx _ _ o_sc (fun w => by have q1 := ho5.2; rw [w, ho4.2] at q1; exact absurd q1 (by decide)) (by rw [t_sc]; rfl))
          exact Or.inr ⟨m29, tg29, ln29, F29, x29, rfl, rfl, Ex_t hXx hx29, hC29, Fq_t (ln := ln) (ln1 := lnx) hMx hXx hM29 (by decide) (Or.inr (Or.inl rfl)), (And.intro ho29 ht29).1, (And.intro ho29 ht29).2, by omega, by omega, by omega, by omega, c34, c36, trivial⟩
        have hM39 : Fq pr [(7, 15), (9, 2), (10, 0), (10, 1), (10, 2), (10, 8), (11, 8), (11, 12), (11, 13), (11, 14), (11, 15), (11, 16), (11, 17), (11, 18)] m tg F F16 := Fq_t (ln := ln) (ln1 := lnx) hMx hXx hM19 (by decide) (Or.inr (Or.inl rfl))
        have lm40 := hx17.1
        have lt41 : pr < 64 + (mx : Int) := ho4.1.2.1
        have lt42 : F (me) (2 : Int) < 64 + (mx : Int) := by rcases y8 with w | w; (· omega); exact w.1.2.1
        have lt43 : la < 64 + (mx : Int) := by rcases yx_la with w | w; (· omega); exact w.1.2.1
        have ho44 : own m15 (me) ∧ tg15 (me) = 9 := Ex_o hx17 ⟨ho3.1, ho3.2⟩
        have ho45 : own m15 (pr) ∧ tg15 (pr) = 7 := Ex_o hx17 ⟨ho4.1, ho4.2⟩
        have y46 : F (me) (2 : Int) = 0 ∨ (own m15 (F (me) (2 : Int)) ∧ tg15 (F (me) (2 : Int)) = 7) := Ex_z hx17 y8
        have y47 : la = 0 ∨ (own m15 (la) ∧ tg15 (la) = 7) := Ex_z hx17 yx_la
        have ho48 : own m15 (sc) ∧ tg15 (sc) = 11 := Ex_o hx17 ⟨ho5.1, ho5.2⟩
        have ho49 : own m15 (pg) ∧ tg15 (pg) = 10 := Ex_o hx17 ⟨ho6.1, ho6.2⟩
        have hX50 := Ex_t hXx hx17
        have c51 : NM m m15 tg15 := NM_t cx_NM hx17 c28
        refine Or.inl ⟨rfl, ?_⟩
        refine jx_rt (v := none) rfl rfl rfl rfl rfl rfl ?_
        have q52 : F16 (sc) (7 : Int) = F (sc) (7 : Int) := ((show F16 (sc) (7 : Int) = Fx (sc) (7 : Int) from hM19 _ _ ho5.1 (own_z ho5.1) (by rw [ho5.2]; rfl)).trans (show Fx (sc) (7 : Int) = F (sc) (7 : Int) from hMx _ _ o_sc (fun w => by have q1 := ho48.2; rw [w, ho45.2] at q1; exact absurd q1 (by decide)) (by rw [t_sc]; rfl)))
        have q53 : F16 (pg) (9 : Int) = F (pg) (9 : Int) := ((show F16 (pg) (9 : Int) = Fx (pg) (9 : Int) from hM19 _ _ ho6.1 (own_z ho6.1) (by rw [ho6.2]; rfl)).trans (show Fx (pg) (9 : Int) = F (pg) (9 : Int) from hMx _ _ o_pg (fun w => by have q1 := ho49.2; rw [w, ho45.2] at q1; exact absurd q1 (by decide)) (by rw [t_pg]; rfl)))
        have q54 := tz_b (F16 (sc) (15 : Int))
        have q55 := lz_b (F16 (sc) (14 : Int))
        have q56 : F16 (pg) (9 : Int) = F (pg) (9 : Int) := q53
        exact Or.inl ⟨m15, tg15, ln15, F16, rfl, rfl, hX50, hC18, hM39, by omega, by omega, by omega, by omega, by omega, by omega, by omega, c27, c51, trivial⟩
      · have _q := h10
        refine jx_ld (pc_q := 25) (l_q := L) (st_q := [.int (i32 (k))]) rfl (jl_iload gL_4) ?_
        refine jx_if_ne (pc_q := 28) (tg := 40) rfl rfl rfl (by omega) (by omega) (fun h57 => ?_) (fun h57 => ?_)
        · have _q := h57
          refine jx_ld (pc_q := 41) (l_q := L) (st_q := [rv (me)]) rfl (jl_rvn gL_0) ?_
          refine jx_ld (pc_q := 42) (l_q := L) (st_q := [rv (F (me) (2 : Int)), rv (me)]) rfl (jl_rvn gL_2) ?_
          have q58 := tz_b (Fx (sc) (15 : Int))
          have q59 : Fx (sc) (7 : Int) = F (sc) (7 : Int) := (show Fx (sc) (7 : Int) = F (sc) (7 : Int) from hMx _ _ o_sc (fun w => by have q1 := ho5.2; rw [w, ho4.2] at q1; exact absurd q1 (by decide)) (by rw [t_sc]; rfl))
          have q60 := lz_b (Fx (sc) (14 : Int))
          have q61 : Fx (pg) (9 : Int) = F (pg) (9 : Int) := (show Fx (pg) (9 : Int) = F (pg) (9 : Int) from hMx _ _ o_pg (fun w => by have q1 := ho6.2; rw [w, ho4.2] at q1; exact absurd q1 (by decide)) (by rw [t_pg]; rfl))
          refine cx_vi (c := 8) (a := me) (st := []) (as := [rv (F (me) (2 : Int))]) rfl rfl rfl ho3.1 ho3.2 (by decide) rfl ⟨rfl, rfl, (Nat.le_of_ble_eq_true rfl)⟩ rfl (k_LParser_readParameter (dd := d) (R := R) (m := mx) (tg := tgx) (ln := lnx) (F := Fx) (me := me) (bf := F (me) (2 : Int)) (hd := by omega) (hC := hCx) (o_me := ho3.1) (t_me := ho3.2) (y_bf := y8) (sc := sc) (pg := pg) (o_sc := ho5.1) (t_sc := ho5.2) (e_sc := ((show Fx (me) (1 : Int) = F (me) (1 : Int) from hMx _ _ o_me (fun w => by have q1 := ho3.2; rw [w, ho4.2] at q1; exact absurd q1 (by decide)) (by rw [t_me]; rfl)).trans e_sc)) (o_pg := ho6.1) (t_pg := ho6.2) (e_pg := ((show Fx (me) (0 : Int) = F (me) (0 : Int) from hMx _ _ o_me (fun w => by have q1 := ho3.2; rw [w, ho4.2] at q1; exact absurd q1 (by decide)) (by rw [t_me]; rfl)).trans e_pg)) (p_0 := by omega) (p_1 := by omega) (p_2 := by omega) (c_NP := cx_NP)) (fun o V_q hq => ?_)
          obtain ⟨m62, tg62, ln62, F63, r64, rfl, rfl, hx65, hC66, hM67, b68, p69, p70, p71, p72, p73, p74, p75, p76, p77, c78, c79, -⟩ | ⟨m80, tg80, ln80, F80, x80, rfl, rfl, hx80, hC80, hM80, ho80, ht80, p81, p82, p83, p84, c85, c86, -⟩ := hq
          rotate_left
          ·
            have c87 : NM m m80 tg80 := NM_t cx_NM hx80 c86
            have lm88 := hx80.1
            refine Or.inr (Or.inr (Or.inr ⟨_, _, rfl, cx_exc (c := 15) ho80 ht80 (by decide), rfl, ?_⟩))
            have q89 : Fx (sc) (7 : Int) = F (sc) (7 : Int) := (show Fx (sc) (7 : Int) = F (sc) (7 : Int) from hMx _ _ o_sc (fun w => by have q1 := ho5.2; rw [w, ho4.2] at q1; exact absurd q1 (by decide)) (by rw [t_sc]; rfl))
            exact Or.inr ⟨m80, tg80, ln80, F80, x80, rfl, rfl, Ex_t hXx hx80, hC80, Fq_t (ln := ln) (ln1 := lnx) hMx hXx hM80 (by decide) (Or.inr (Or.inl rfl)), (And.intro ho80 ht80).1, (And.intro ho80 ht80).2, by omega, by omega, by omega, by omega, c85, c87, trivial⟩
          have hM90 : Fq pr [(7, 15), (9, 2), (10, 0), (10, 1), (10, 2), (10, 8), (11, 8), (11, 12), (11, 13), (11, 14), (11, 15), (11, 16), (11, 17), (11, 18)] m tg F F63 := Fq_t (ln := ln) (ln1 := lnx) hMx hXx hM67 (by decide) (Or.inr (Or.inl rfl))
          have lm91 := hx65.1
          have lt92 : pr < 64 + (mx : Int) := ho4.1.2.1
          have lt93 : F (me) (2 : Int) < 64 + (mx : Int) := by rcases y8 with w | w; (· omega); exact w.1.2.1
          have lt94 : la < 64 + (mx : Int) := by rcases yx_la with w | w; (· omega); exact w.1.2.1
          have ho95 : own m62 (me) ∧ tg62 (me) = 9 := Ex_o hx65 ⟨ho3.1, ho3.2⟩
          have ho96 : own m62 (pr) ∧ tg62 (pr) = 7 := Ex_o hx65 ⟨ho4.1, ho4.2⟩
          have y97 : F (me) (2 : Int) = 0 ∨ (own m62 (F (me) (2 : Int)) ∧ tg62 (F (me) (2 : Int)) = 7) := Ex_z hx65 y8
          have y98 : la = 0 ∨ (own m62 (la) ∧ tg62 (la) = 7) := Ex_z hx65 yx_la
          have ho99 : own m62 (sc) ∧ tg62 (sc) = 11 := Ex_o hx65 ⟨ho5.1, ho5.2⟩
          have ho100 : own m62 (pg) ∧ tg62 (pg) = 10 := Ex_o hx65 ⟨ho6.1, ho6.2⟩
          have hX101 := Ex_t hXx hx65
          have c102 : NM m m62 tg62 := NM_t cx_NM hx65 c79
          refine Or.inr (Or.inl ⟨_, rfl, ?_⟩)
          refine jx_ld (pc_q := 47) (l_q := jSto1 L 5 (rv (r64))) (st_q := []) rfl (js_rv (by decide)) ?_
          obtain ⟨L103, eL103⟩ : ∃ q : jL, q = jSto1 L 5 (rv (r64)) := ⟨_, rfl⟩
          rw [← eL103]
          have g104 : jGet L103 0 = some (rv (me)) := eL103 ▸ jg_nr (by decide) gL_0
          have g105 : jGet L103 1 = some (rv (pr)) := eL103 ▸ jg_nr (by decide) gL_1
          have g106 : jGet L103 2 = some (rv (F (me) (2 : Int))) := eL103 ▸ jg_nr (by decide) gL_2
          have g107 : jGet L103 4 = some (.int (i32 (k))) := eL103 ▸ jg_ne (by decide) gL_4 rfl
          have g108 : jGet L103 3 = some (rv (la)) := eL103 ▸ jg_nr (by decide) gL_3
          have g109 : jGet L103 5 = some (rv (r64)) := eL103 ▸ jg_eq
          clear eL103
          refine jx_ld (pc_q := 48) (l_q := L103) (st_q := [rv (la)]) rfl (jl_rvn g108) ?_
          refine cx_non (pc_q := 51) (tg_q := 60) rfl rfl rfl (fun h110 => ?_) (fun h110 => ?_)
          · have _q := h110
            have ho111 : own m62 (la) ∧ tg62 (la) = 7 := y98.resolve_left h110
            refine jx_ld (pc_q := 61) (l_q := L103) (st_q := [rv (la)]) rfl (jl_rvn g108) ?_
            refine jx_ld (pc_q := 63) (l_q := L103) (st_q := [rv (r64), rv (la)]) rfl (jl_rv g109) ?_
            refine cx_po (pc_q := 66) (c := 6) (q := 14) (qi := (14 : Int)) (z := r64) rfl rfl (by decide) (by decide) rfl rfl rfl (by decide) rfl ho111.1 ho111.2 rfl ?_
            obtain ⟨F112, eF112⟩ : ∃ q, q = uF F63 (la) (14 : Int) (r64) := ⟨_, rfl⟩
            rw [← eF112]
            have hC113 : HC 0 m62 tg62 ln62 F112 := by rw [eF112]; exact HC_fr (c := 6) (q := 14) (by decide) hC66 ho111.2 (by decide) rfl (Or.inr ⟨b68.1, b68.2⟩) ⟨fun w => absurd w (by decide), fun w => absurd w (by decide)⟩
            have hM114 : Fq pr [(7, 15), (9, 2), (10, 0), (10, 1), (10, 2), (10, 8), (11, 8), (11, 12), (11, 13), (11, 14), (11, 15), (11, 16), (11, 17), (11, 18)] m tg F F112 := by rw [eF112]; exact Fq_x hM90 (Or.inr (by omega))
            have c115 : NP m62 tg62 F112 := by rw [eF112]; exact NP_nm hC66 c78 ho111.2 (Or.inl ⟨rfl, (by omega), by omega⟩)
            refine jx_ld (pc_q := 68) (l_q := L103) (st_q := [rv (r64)]) rfl (jl_rv g109) ?_
            refine jx_ld (pc_q := 69) (l_q := jSto1 L103 3 (rv (r64))) (st_q := []) rfl (js_rvn (by decide)) ?_
            obtain ⟨L116, eL116⟩ : ∃ q : jL, q = jSto1 L103 3 (rv (r64)) := ⟨_, rfl⟩
            rw [← eL116]
            have g117 : jGet L116 0 = some (rv (me)) := eL116 ▸ jg_nr (by decide) g104
            have g118 : jGet L116 1 = some (rv (pr)) := eL116 ▸ jg_nr (by decide) g105
            have g119 : jGet L116 2 = some (rv (F (me) (2 : Int))) := eL116 ▸ jg_nr (by decide) g106
            have g120 : jGet L116 4 = some (.int (i32 (k))) := eL116 ▸ jg_ne (by decide) g107 rfl
            have g121 : jGet L116 5 = some (rv (r64)) := eL116 ▸ jg_nr (by decide) g109
            have g122 : jGet L116 3 = some (rv (r64)) := eL116 ▸ jg_eq
            clear eL116
            refine jx_ld (pc_q := 70) (l_q := L116) (st_q := [rv (pr)]) rfl (jl_rvn g118) ?_
            refine jx_ar (pc_q := 71) (st_q := [rv (pr), rv (pr)]) rfl rfl ja_dup rfl ?_
            refine cx_gi (pc_q := 74) (c := 6) (q := 8) (v := Fx (pr) (8 : Int)) rfl rfl (by decide) (by decide) (Or.inl rfl) rfl ho96.1 ho96.2 ((show F112 (pr) (8 : Int) = F63 (pr) (8 : Int) from by rw [eF112]; exact uF_j (by decide)).trans (show F63 (pr) (8 : Int) = Fx (pr) (8 : Int) from hM67 _ _ ho4.1 (own_z ho4.1) (by rw [ho4.2]; rfl))) ?_
            have b123 : (-2147483648 : Int) ≤ Fx (pr) (8 : Int) ∧ Fx (pr) (8 : Int) ≤ 2147483647 := by have z := HC_i (c := 6) (q := 8) hC113 ho96.1 ho96.2 (by decide) rfl; rw [show F112 (pr) ((8 : Nat) : Int) = Fx (pr) (8 : Int) from ((show F112 (pr) (8 : Int) = F63 (pr) (8 : Int) from by rw [eF112]; exact uF_j (by decide)).trans (show F63 (pr) (8 : Int) = Fx (pr) (8 : Int) from hM67 _ _ ho4.1 (own_z ho4.1) (by rw [ho4.2]; rfl)))] at z; exact z
            refine jx_ar (pc_q := 75) (st_q := [.int (i32 (1)), .int (i32 (Fx (pr) (8 : Int))), rv (pr)]) rfl rfl rfl rfl ?_
            refine jx_add (pc_q := 76) rfl rfl ?_
            obtain ⟨z124, ez124⟩ : ∃ q, q = (i32 ((Fx (pr) (8 : Int) + 1))).toInt := ⟨_, rfl⟩
            have bz124 : (-2147483648 : Int) ≤ z124 ∧ z124 ≤ 2147483647 := ez124 ▸ i32_rg _
            rw [show i32 ((Fx (pr) (8 : Int) + 1)) = i32 z124 by rw [ez124, i32_of]]
            clear ez124
            refine cx_pi (pc_q := 79) (c := 6) (q := 8) (qi := (8 : Int)) (z := z124) rfl rfl (by decide) (by decide) rfl rfl rfl (by decide) rfl ho96.1 ho96.2 rfl ?_
            obtain ⟨F125, eF125⟩ : ∃ q, q = uF F112 (pr) (8 : Int) (z124) := ⟨_, rfl⟩
            rw [← eF125]
            have hC126 : HC 0 m62 tg62 ln62 F125 := by rw [eF125]; exact HC_fi (c := 6) (q := 8) hC113 ho96.2 (by decide) rfl (by omega) (by omega) ⟨fun w => absurd w (by decide), fun w => absurd w (by decide)⟩
            have hM127 : Fq pr [(7, 15), (9, 2), (10, 0), (10, 1), (10, 2), (10, 8), (11, 8), (11, 12), (11, 13), (11, 14), (11, 15), (11, 16), (11, 17), (11, 18)] m tg F F125 := by rw [eF125]; exact Fq_x hM114 (Or.inl rfl)
            have c128 : NP m62 tg62 F125 := by rw [eF125]; exact NP_u hC113 c115 ho96.2 (by omega)
            refine jx_ld (pc_q := 80) (l_q := L116) (st_q := [rv (me)]) rfl (jl_rvn g117) ?_
            refine cx_gr (pc_q := 83) (c := 8) (q := 1) (v := sc) rfl rfl (by decide) (by decide) rfl rfl ho95.1 ho95.2 (((show F125 (me) (1 : Int) = F112 (me) (1 : Int) from by rw [eF125]; exact uF_j (by decide)).trans ((show F112 (me) (1 : Int) = F63 (me) (1 : Int) from by rw [eF112]; exact uF_j (by decide)).trans ((show F63 (me) (1 : Int) = Fx (me) (1 : Int) from hM67 _ _ ho3.1 (own_z ho3.1) (by rw [ho3.2]; rfl)).trans (show Fx (me) (1 : Int) = F (me) (1 : Int) from hMx _ _ o_me (fun w => by have q1 := ho95.2; rw [w, ho96.2] at q1; exact absurd q1 (by decide)) (by rw [t_me]; rfl))))).trans e_sc) ?_
            refine cx_gi (pc_q := 86) (c := 10) (q := 15) (v := F63 (sc) (15 : Int)) rfl rfl (by decide) (by decide) (Or.inl rfl) rfl ho99.1 ho99.2 ((show F125 (sc) (15 : Int) = F112 (sc) (15 : Int) from by rw [eF125]; exact uF_j (by decide)).trans (show F112 (sc) (15 : Int) = F63 (sc) (15 : Int) from by rw [eF112]; exact uF_j (by decide))) ?_
            have b129 : (-2147483648 : Int) ≤ F63 (sc) (15 : Int) ∧ F63 (sc) (15 : Int) ≤ 2147483647 := by have z := HC_i (c := 10) (q := 15) hC126 ho99.1 ho99.2 (by decide) rfl; rw [show F125 (sc) ((15 : Nat) : Int) = F63 (sc) (15 : Int) from ((show F125 (sc) (15 : Int) = F112 (sc) (15 : Int) from by rw [eF125]; exact uF_j (by decide)).trans (show F112 (sc) (15 : Int) = F63 (sc) (15 : Int) from by rw [eF112]; exact uF_j (by decide)))] at z; exact z
            refine jx_ar (pc_q := 88) (st_q := [.int (i32 (52)), .int (i32 (F63 (sc) (15 : Int)))]) rfl rfl rfl rfl ?_
            refine jx_icmp_ne (pc_q := 91) (tg := 116) rfl rfl rfl (by omega) (by omega) (by decide) (by decide) (fun h130 => ?_) (fun h130 => ?_)
            · have _q := h130
              refine jx_ld (pc_q := 117) (l_q := L116) (st_q := [rv (me)]) rfl (jl_rvn g117) ?_
              refine jx_ar (pc_q := 119) (st_q := [.int (i32 (55)), rv (me)]) rfl rfl rfl rfl ?_
              have q131 : F125 (sc) (8 : Int) = F63 (sc) (8 : Int) := ((show F125 (sc) (8 : Int) = F112 (sc) (8 : Int) from by rw [eF125]; exact uF_a (fun w => by have q1 := ho99.2; have q2 := ho96.2; rw [w, q2] at q1; exact absurd q1 (by decide))).trans (show F112 (sc) (8 : Int) = F63 (sc) (8 : Int) from by rw [eF112]; exact uF_j (by decide)))
              have q132 : F125 (sc) (15 : Int) = F63 (sc) (15 : Int) := ((show F125 (sc) (15 : Int) = F112 (sc) (15 : Int) from by rw [eF125]; exact uF_j (by decide)).trans (show F112 (sc) (15 : Int) = F63 (sc) (15 : Int) from by rw [eF112]; exact uF_j (by decide)))
              have q133 : tz (F125 (sc) (15 : Int)) = tz (F63 (sc) (15 : Int)) := by rw [q132]
              have q134 := tz_b (F63 (sc) (15 : Int))
              have q135 : F125 (sc) (7 : Int) = F (sc) (7 : Int) := ((show F125 (sc) (7 : Int) = F112 (sc) (7 : Int) from by rw [eF125]; exact uF_j (by decide)).trans ((show F112 (sc) (7 : Int) = F63 (sc) (7 : Int) from by rw [eF112]; exact uF_j (by decide)).trans ((show F63 (sc) (7 : Int) = Fx (sc) (7 : Int) from hM67 _ _ ho5.1 (own_z ho5.1) (by rw [ho5.2]; rfl)).trans (show Fx (sc) (7 : Int) = F (sc) (7 : Int) from hMx _ _ o_sc (fun w => by have q1 := ho99.2; rw [w, ho96.2] at q1; exact absurd q1 (by decide)) (by rw [t_sc]; rfl)))))
              have q136 : F125 (sc) (14 : Int) = F63 (sc) (14 : Int) := ((show F125 (sc) (14 : Int) = F112 (sc) (14 : Int) from by rw [eF125]; exact uF_j (by decide)).trans (show F112 (sc) (14 : Int) = F63 (sc) (14 : Int) from by rw [eF112]; exact uF_a (fun w => by have q1 := ho99.2; have q2 := ho111.2; rw [w, q2] at q1; exact absurd q1 (by decide))))
              have q137 : lz (F125 (sc) (14 : Int)) = lz (F63 (sc) (14 : Int)) := by rw [q136]
              have q138 := lz_b (F63 (sc) (14 : Int))
              have q139 : F125 (pg) (9 : Int) = F (pg) (9 : Int) := ((show F125 (pg) (9 : Int) = F112 (pg) (9 : Int) from by rw [eF125]; exact uF_j (by decide)).trans ((show F112 (pg) (9 : Int) = F63 (pg) (9 : Int) from by rw [eF112]; exact uF_j (by decide)).trans ((show F63 (pg) (9 : Int) = Fx (pg) (9 : Int) from hM67 _ _ ho6.1 (own_z ho6.1) (by rw [ho6.2]; rfl)).trans (show Fx (pg) (9 : Int) = F (pg) (9 : Int) from hMx _ _ o_pg (fun w => by have q1 := ho100.2; rw [w, ho96.2] at q1; exact absurd q1 (by decide)) (by rw [t_pg]; rfl)))))
              refine cx_vi (c := 8) (a := me) (st := []) (as := [.int (i32 (55))]) rfl rfl rfl ho95.1 ho95.2 (by decide) rfl ⟨rfl, rfl, (Nat.le_of_ble_eq_true rfl)⟩ rfl (k_LParser_expect (dd := d) (R := R) (m := m62) (tg := tg62) (ln := ln62) (F := F125) (me := me) (tk := 55) (hd := by omega) (hC := hC126) (o_me := ho95.1) (t_me := ho95.2) (h_tk := by omega) (sc := sc) (pg := pg) (o_sc := ho99.1) (t_sc := ho99.2) (e_sc := (((show F125 (me) (1 : Int) = F112 (me) (1 : Int) from by rw [eF125]; exact uF_j (by decide)).trans ((show F112 (me) (1 : Int) = F63 (me) (1 : Int) from by rw [eF112]; exact uF_j (by decide)).trans ((show F63 (me) (1 : Int) = Fx (me) (1 : Int) from hM67 _ _ ho3.1 (own_z ho3.1) (by rw [ho3.2]; rfl)).trans (show Fx (me) (1 : Int) = F (me) (1 : Int) from hMx _ _ o_me (fun w => by have q1 := ho95.2; rw [w, ho96.2] at q1; exact absurd q1 (by decide)) (by rw [t_me]; rfl))))).trans e_sc)) (o_pg := ho100.1) (t_pg := ho100.2) (e_pg := (((show F125 (me) (0 : Int) = F112 (me) (0 : Int) from by rw [eF125]; exact uF_j (by decide)).trans ((show F112 (me) (0 : Int) = F63 (me) (0 : Int) from by rw [eF112]; exact uF_j (by decide)).trans ((show F63 (me) (0 : Int) = Fx (me) (0 : Int) from hM67 _ _ ho3.1 (own_z ho3.1) (by rw [ho3.2]; rfl)).trans (show Fx (me) (0 : Int) = F (me) (0 : Int) from hMx _ _ o_me (fun w => by have q1 := ho95.2; rw [w, ho96.2] at q1; exact absurd q1 (by decide)) (by rw [t_me]; rfl))))).trans e_pg)) (p_0 := by omega) (p_1 := by omega) (p_2 := by omega) (p_3 := by omega) (c_NP := c128)) (fun o V_q hq => ?_)
              obtain ⟨m140, tg140, ln140, F141, rfl, rfl, hx142, hC143, hM144, p145, p146, p147, p148, p149, p150, p151, c152, c153, -⟩ | ⟨m154, tg154, ln154, F154, x154, rfl, rfl, hx154, hC154, hM154, ho154, ht154, p155, p156, p157, p158, c159, c160, -⟩ := hq
              rotate_left
              ·
                have c161 : NM m m154 tg154 := NM_t c102 hx154 c160
                have lm162 := hx154.1
                refine Or.inr (Or.inr (Or.inr ⟨_, _, rfl, cx_exc (c := 15) ho154 ht154 (by decide), rfl, ?_⟩))
                have q163 : F125 (sc) (8 : Int) = F63 (sc) (8 : Int) := q131
                have q164 : F125 (sc) (7 : Int) = F (sc) (7 : Int) := q135
                exact Or.inr ⟨m154, tg154, ln154, F154, x154, rfl, rfl, Ex_t hX101 hx154, hC154, Fq_t (ln := ln) (ln1 := ln62) hM127 hX101 hM154 (by decide) (Or.inr (Or.inl rfl)), (And.intro ho154 ht154).1, (And.intro ho154 ht154).2, by omega, by omega, by omega, by omega, c159, c161, trivial⟩
              have hM165 : Fq pr [(7, 15), (9, 2), (10, 0), (10, 1), (10, 2), (10, 8), (11, 8), (11, 12), (11, 13), (11, 14), (11, 15), (11, 16), (11, 17), (11, 18)] m tg F F141 := Fq_t (ln := ln) (ln1 := ln62) hM127 hX101 hM144 (by decide) (Or.inr (Or.inl rfl))
              have lm166 := hx142.1
              have lt167 : pr < 64 + (m62 : Int) := ho96.1.2.1
              have lt168 : F (me) (2 : Int) < 64 + (m62 : Int) := by rcases y97 with w | w; (· omega); exact w.1.2.1
              have lt169 : r64 < 64 + (m62 : Int) := b68.1.2.1
              have ho170 : own m140 (me) ∧ tg140 (me) = 9 := Ex_o hx142 ⟨ho95.1, ho95.2⟩
              have ho171 : own m140 (pr) ∧ tg140 (pr) = 7 := Ex_o hx142 ⟨ho96.1, ho96.2⟩
              have y172 : F (me) (2 : Int) = 0 ∨ (own m140 (F (me) (2 : Int)) ∧ tg140 (F (me) (2 : Int)) = 7) := Ex_z hx142 y97
              have ho173 : own m140 (r64) ∧ tg140 (r64) = 7 := Ex_o hx142 ⟨b68.1, b68.2⟩
              have ho174 : own m140 (sc) ∧ tg140 (sc) = 11 := Ex_o hx142 ⟨ho99.1, ho99.2⟩
              have ho175 : own m140 (pg) ∧ tg140 (pg) = 10 := Ex_o hx142 ⟨ho100.1, ho100.2⟩
              have hX176 := Ex_t hX101 hx142
              have c177 : NM m m140 tg140 := NM_t c102 hx142 c153
              refine Or.inl ⟨rfl, ?_⟩
              refine jx_rt (v := none) rfl rfl rfl rfl rfl rfl ?_
              have q178 : F141 (sc) (7 : Int) = F (sc) (7 : Int) := ((show F141 (sc) (7 : Int) = F125 (sc) (7 : Int) from hM144 _ _ ho99.1 (own_z ho99.1) (by rw [ho99.2]; rfl)).trans q135)
              have q179 : F141 (pg) (9 : Int) = F (pg) (9 : Int) := ((show F141 (pg) (9 : Int) = F125 (pg) (9 : Int) from hM144 _ _ ho100.1 (own_z ho100.1) (by rw [ho100.2]; rfl)).trans q139)
              have q180 := tz_b (F141 (sc) (15 : Int))
              have q181 := lz_b (F141 (sc) (14 : Int))
              have q182 : F141 (pg) (9 : Int) = F (pg) (9 : Int) := q179
              exact Or.inl ⟨m140, tg140, ln140, F141, rfl, rfl, hX176, hC143, hM165, by omega, by omega, by omega, by omega, by omega, by omega, by omega, c152, c177, trivial⟩
            · have _q := h130
              have t183 : tz (F63 (sc) (15 : Int)) = 1 := tz_p (by omega)
              refine jx_ld (pc_q := 92) (l_q := L116) (st_q := [rv (pr)]) rfl (jl_rvn g118) ?_
              refine cx_gi (pc_q := 95) (c := 6) (q := 8) (v := z124) rfl rfl (by decide) (by decide) (Or.inl rfl) rfl ho96.1 ho96.2 (show F125 (pr) (8 : Int) = z124 from by rw [eF125]; exact uF_e) ?_
              refine jx_ar (pc_q := 97) (st_q := [.int (i32 (6)), .int (i32 (z124))]) rfl rfl rfl rfl ?_
              refine jx_icmp_ne (pc_q := 100) (tg := 103) rfl rfl rfl (by omega) (by omega) (by decide) (by decide) (fun h184 => ?_) (fun h184 => ?_)
              · have _q := h184
                refine jx_ld (pc_q := 104) (l_q := L116) (st_q := [rv (me)]) rfl (jl_rvn g117) ?_
                refine cx_gr (pc_q := 107) (c := 8) (q := 1) (v := sc) rfl rfl (by decide) (by decide) rfl rfl ho95.1 ho95.2 (((show F125 (me) (1 : Int) = F112 (me) (1 : Int) from by rw [eF125]; exact uF_j (by decide)).trans ((show F112 (me) (1 : Int) = F63 (me) (1 : Int) from by rw [eF112]; exact uF_j (by decide)).trans ((show F63 (me) (1 : Int) = Fx (me) (1 : Int) from hM67 _ _ ho3.1 (own_z ho3.1) (by rw [ho3.2]; rfl)).trans (show Fx (me) (1 : Int) = F (me) (1 : Int) from hMx _ _ o_me (fun w => by have q1 := ho95.2; rw [w, ho96.2] at q1; exact absurd q1 (by decide)) (by rw [t_me]; rfl))))).trans e_sc) ?_
                have q185 : F125 (sc) (8 : Int) = F63 (sc) (8 : Int) := ((show F125 (sc) (8 : Int) = F112 (sc) (8 : Int) from by rw [eF125]; exact uF_a (fun w => by have q1 := ho99.2; have q2 := ho96.2; rw [w, q2] at q1; exact absurd q1 (by decide))).trans (show F112 (sc) (8 : Int) = F63 (sc) (8 : Int) from by rw [eF112]; exact uF_j (by decide)))
                have q186 : F125 (sc) (15 : Int) = F63 (sc) (15 : Int) := ((show F125 (sc) (15 : Int) = F112 (sc) (15 : Int) from by rw [eF125]; exact uF_j (by decide)).trans (show F112 (sc) (15 : Int) = F63 (sc) (15 : Int) from by rw [eF112]; exact uF_j (by decide)))
                have q187 : tz (F125 (sc) (15 : Int)) = tz (F63 (sc) (15 : Int)) := by rw [q186]
                have q188 := tz_b (F63 (sc) (15 : Int))
                have q189 : F125 (sc) (7 : Int) = F (sc) (7 : Int) := ((show F125 (sc) (7 : Int) = F112 (sc) (7 : Int) from by rw [eF125]; exact uF_j (by decide)).trans ((show F112 (sc) (7 : Int) = F63 (sc) (7 : Int) from by rw [eF112]; exact uF_j (by decide)).trans ((show F63 (sc) (7 : Int) = Fx (sc) (7 : Int) from hM67 _ _ ho5.1 (own_z ho5.1) (by rw [ho5.2]; rfl)).trans (show Fx (sc) (7 : Int) = F (sc) (7 : Int) from hMx _ _ o_sc (fun w => by have q1 := ho99.2; rw [w, ho96.2] at q1; exact absurd q1 (by decide)) (by rw [t_sc]; rfl)))))
                have q190 : F125 (sc) (14 : Int) = F63 (sc) (14 : Int) := ((show F125 (sc) (14 : Int) = F112 (sc) (14 : Int) from by rw [eF125]; exact uF_j (by decide)).trans (show F112 (sc) (14 : Int) = F63 (sc) (14 : Int) from by rw [eF112]; exact uF_a (fun w => by have q1 := ho99.2; have q2 := ho111.2; rw [w, q2] at q1; exact absurd q1 (by decide))))
                have q191 : lz (F125 (sc) (14 : Int)) = lz (F63 (sc) (14 : Int)) := by rw [q190]
                have q192 := lz_b (F63 (sc) (14 : Int))
                refine cx_vi (c := 10) (a := sc) (st := []) (as := []) rfl rfl rfl ho99.1 ho99.2 (by decide) rfl ⟨rfl, rfl, (Nat.le_of_ble_eq_true rfl)⟩ rfl (k_LScanner_next (dd := d) (R := R) (m := m62) (tg := tg62) (ln := ln62) (F := F125) (me := sc) (hd := by omega) (hC := hC126) (o_me := ho99.1) (t_me := ho99.2) (p_0 := by omega) (p_1 := by omega)) (fun o V_q hq => ?_)
                obtain ⟨F193, rfl, rfl, hC194, hM195, p196, p197, p198, -⟩ := hq
                have hM199 : Fq pr [(7, 15), (9, 2), (10, 0), (10, 1), (10, 2), (10, 8), (11, 8), (11, 12), (11, 13), (11, 14), (11, 15), (11, 16), (11, 17), (11, 18)] m tg F F193 := Fq_t (ln := ln) (ln1 := ln62) hM127 hX101 hM195 (by decide) (Or.inr (Or.inl rfl))
                have c200 : NP m62 tg62 F193 := NP_q hC126 c128 hM195 rfl rfl
                refine Or.inl ⟨rfl, ?_⟩
                refine jx_inc (pc_q := 113) (l_q := jSto1 L116 4 (.int (i32 (k + (1))))) (x := k) rfl g120 (by decide) rfl rfl ?_
                obtain ⟨L201, eL201⟩ : ∃ q : jL, q = jSto1 L116 4 (.int (i32 ((k + (1))))) := ⟨_, rfl⟩
                rw [← eL201]
                have g202 : jGet L201 0 = some (rv (me)) := eL201 ▸ jg_nr (by decide) g117
                have g203 : jGet L201 1 = some (rv (pr)) := eL201 ▸ jg_nr (by decide) g118
                have g204 : jGet L201 2 = some (rv (F (me) (2 : Int))) := eL201 ▸ jg_nr (by decide) g119
                have g205 : jGet L201 5 = some (rv (r64)) := eL201 ▸ jg_nr (by decide) g121
                have g206 : jGet L201 3 = some (rv (r64)) := eL201 ▸ jg_nr (by decide) g122
                have g207 : jGet L201 4 = some (.int (i32 ((k + (1))))) := eL201 ▸ jg_eq
                clear eL201
                refine jx_go (tg := 16) rfl rfl ?_
                have q208 := tz_b (F193 (sc) (15 : Int))
                have q209 := lz_b (F193 (sc) (14 : Int))
                have q210 : F193 (pg) (9 : Int) = F (pg) (9 : Int) := ((show F193 (pg) (9 : Int) = F125 (pg) (9 : Int) from hM195 _ _ ho100.1 (own_z ho100.1) (by rw [ho100.2]; rfl)).trans ((show F125 (pg) (9 : Int) = F112 (pg) (9 : Int) from by rw [eF125]; exact uF_j (by decide)).trans ((show F112 (pg) (9 : Int) = F63 (pg) (9 : Int) from by rw [eF112]; exact uF_j (by decide)).trans ((show F63 (pg) (9 : Int) = Fx (pg) (9 : Int) from hM67 _ _ ho6.1 (own_z ho6.1) (by rw [ho6.2]; rfl)).trans (show Fx (pg) (9 : Int) = F (pg) (9 : Int) from hMx _ _ o_pg (fun w => by have q1 := ho100.2; rw [w, ho96.2] at q1; exact absurd q1 (by decide)) (by rw [t_pg]; rfl))))))
                have q211 : F193 (pr) (13 : Int) = Fx (pr) (13 : Int) := ((show F193 (pr) (13 : Int) = F125 (pr) (13 : Int) from hM195 _ _ ho96.1 (own_z ho96.1) (by rw [ho96.2]; rfl)).trans ((show F125 (pr) (13 : Int) = F112 (pr) (13 : Int) from by rw [eF125]; exact uF_j (by decide)).trans ((show F112 (pr) (13 : Int) = F63 (pr) (13 : Int) from by rw [eF112]; exact uF_j (by decide)).trans (show F63 (pr) (13 : Int) = Fx (pr) (13 : Int) from hM67 _ _ ho4.1 (own_z ho4.1) (by rw [ho4.2]; rfl)))))
                have q212 : F193 (r64) (14 : Int) = F63 (r64) (14 : Int) := ((show F193 (r64) (14 : Int) = F125 (r64) (14 : Int) from hM195 _ _ b68.1 (own_z b68.1) (by rw [b68.2]; rfl)).trans ((show F125 (r64) (14 : Int) = F112 (r64) (14 : Int) from by rw [eF125]; exact uF_j (by decide)).trans (show F112 (r64) (14 : Int) = F63 (r64) (14 : Int) from by rw [eF112]; exact uF_a (by omega))))
                exact ih _ (by omega) L201 m62 tg62 ln62 F193 ((k + (1))) (r64) rfl g202 g203 g204 g207 g206 hX101 hC194 hM199 (by omega) (Or.inr ⟨b68.1, b68.2⟩) (by omega) (by omega) (by omega) (by omega) (by omega) (by omega) (by omega) (by omega) (by omega) (by omega) c200 c102
              · have _q := h184
                refine jx_go (tg := 116) rfl rfl ?_
                refine jx_ld (pc_q := 117) (l_q := L116) (st_q := [rv (me)]) rfl (jl_rvn g117) ?_
                refine jx_ar (pc_q := 119) (st_q := [.int (i32 (55)), rv (me)]) rfl rfl rfl rfl ?_
                have q213 : F125 (sc) (8 : Int) = F63 (sc) (8 : Int) := ((show F125 (sc) (8 : Int) = F112 (sc) (8 : Int) from by rw [eF125]; exact uF_a (fun w => by have q1 := ho99.2; have q2 := ho96.2; rw [w, q2] at q1; exact absurd q1 (by decide))).trans (show F112 (sc) (8 : Int) = F63 (sc) (8 : Int) from by rw [eF112]; exact uF_j (by decide)))
                have q214 : F125 (sc) (15 : Int) = F63 (sc) (15 : Int) := ((show F125 (sc) (15 : Int) = F112 (sc) (15 : Int) from by rw [eF125]; exact uF_j (by decide)).trans (show F112 (sc) (15 : Int) = F63 (sc) (15 : Int) from by rw [eF112]; exact uF_j (by decide)))
                have q215 : tz (F125 (sc) (15 : Int)) = tz (F63 (sc) (15 : Int)) := by rw [q214]
                have q216 := tz_b (F63 (sc) (15 : Int))
                have q217 : F125 (sc) (7 : Int) = F (sc) (7 : Int) := ((show F125 (sc) (7 : Int) = F112 (sc) (7 : Int) from by rw [eF125]; exact uF_j (by decide)).trans ((show F112 (sc) (7 : Int) = F63 (sc) (7 : Int) from by rw [eF112]; exact uF_j (by decide)).trans ((show F63 (sc) (7 : Int) = Fx (sc) (7 : Int) from hM67 _ _ ho5.1 (own_z ho5.1) (by rw [ho5.2]; rfl)).trans (show Fx (sc) (7 : Int) = F (sc) (7 : Int) from hMx _ _ o_sc (fun w => by have q1 := ho99.2; rw [w, ho96.2] at q1; exact absurd q1 (by decide)) (by rw [t_sc]; rfl)))))
                have q218 : F125 (sc) (14 : Int) = F63 (sc) (14 : Int) := ((show F125 (sc) (14 : Int) = F112 (sc) (14 : Int) from by rw [eF125]; exact uF_j (by decide)).trans (show F112 (sc) (14 : Int) = F63 (sc) (14 : Int) from by rw [eF112]; exact uF_a (fun w => by have q1 := ho99.2; have q2 := ho111.2; rw [w, q2] at q1; exact absurd q1 (by decide))))
                have q219 : lz (F125 (sc) (14 : Int)) = lz (F63 (sc) (14 : Int)) := by rw [q218]
                have q220 := lz_b (F63 (sc) (14 : Int))
                have q221 : F125 (pg) (9 : Int) = F (pg) (9 : Int) := ((show F125 (pg) (9 : Int) = F112 (pg) (9 : Int) from by rw [eF125]; exact uF_j (by decide)).trans ((show F112 (pg) (9 : Int) = F63 (pg) (9 : Int) from by rw [eF112]; exact uF_j (by decide)).trans ((show F63 (pg) (9 : Int) = Fx (pg) (9 : Int) from hM67 _ _ ho6.1 (own_z ho6.1) (by rw [ho6.2]; rfl)).trans (show Fx (pg) (9 : Int) = F (pg) (9 : Int) from hMx _ _ o_pg (fun w => by have q1 := ho100.2; rw [w, ho96.2] at q1; exact absurd q1 (by decide)) (by rw [t_pg]; rfl)))))
                refine cx_vi (c := 8) (a := me) (st := []) (as := [.int (i32 (55))]) rfl rfl rfl ho95.1 ho95.2 (by decide) rfl ⟨rfl, rfl, (Nat.le_of_ble_eq_true rfl)⟩ rfl (k_LParser_expect (dd := d) (R := R) (m := m62) (tg := tg62) (ln := ln62) (F := F125) (me := me) (tk := 55) (hd := by omega) (hC := hC126) (o_me := ho95.1) (t_me := ho95.2) (h_tk := by omega) (sc := sc) (pg := pg) (o_sc := ho99.1) (t_sc := ho99.2) (e_sc := (((show F125 (me) (1 : Int) = F112 (me) (1 : Int) from by rw [eF125]; exact uF_j (by decide)).trans ((show F112 (me) (1 : Int) = F63 (me) (1 : Int) from by rw [eF112]; exact uF_j (by decide)).trans ((show F63 (me) (1 : Int) = Fx (me) (1 : Int) from hM67 _ _ ho3.1 (own_z ho3.1) (by rw [ho3.2]; rfl)).trans (show Fx (me) (1 : Int) = F (me) (1 : Int) from hMx _ _ o_me (fun w => by have q1 := ho95.2; rw [w, ho96.2] at q1; exact absurd q1 (by decide)) (by rw [t_me]; rfl))))).trans e_sc)) (o_pg := ho100.1) (t_pg := ho100.2) (e_pg := (((show F125 (me) (0 : Int) = F112 (me) (0 : Int) from by rw [eF125]; exact uF_j (by decide)).trans ((show F112 (me) (0 : Int) = F63 (me) (0 : Int) from by rw [eF112]; exact uF_j (by decide)).trans ((show F63 (me) (0 : Int) = Fx (me) (0 : Int) from hM67 _ _ ho3.1 (own_z ho3.1) (by rw [ho3.2]; rfl)).trans (show Fx (me) (0 : Int) = F (me) (0 : Int) from hMx _ _ o_me (fun w => by have q1 := ho95.2; rw [w, ho96.2] at q1; exact absurd q1 (by decide)) (by rw [t_me]; rfl))))).trans e_pg)) (p_0 := by omega) (p_1 := by omega) (p_2 := by omega) (p_3 := by omega) (c_NP := c128)) (fun o V_q hq => ?_)
                obtain ⟨m222, tg222, ln222, F223, rfl, rfl, hx224, hC225, hM226, p227, p228, p229, p230, p231, p232, p233, c234, c235, -⟩ | ⟨m236, tg236, ln236, F236, x236, rfl, rfl, hx236, hC236, hM236, ho236, ht236, p237, p238, p239, p240, c241, c242, -⟩ := hq
                rotate_left
                ·
                  have c243 : NM m m236 tg236 := NM_t c102 hx236 c242
                  have lm244 := hx236.1
                  refine Or.inr (Or.inr (Or.inr ⟨_, _, rfl, cx_exc (c := 15) ho236 ht236 (by decide), rfl, ?_⟩))
                  have q245 : F125 (sc) (8 : Int) = F63 (sc) (8 : Int) := q213
                  have q246 : F125 (sc) (7 : Int) = F (sc) (7 : Int) := q217
                  exact Or.inr ⟨m236, tg236, ln236, F236, x236, rfl, rfl, Ex_t hX101 hx236, hC236, Fq_t (ln := ln) (ln1 := ln62) hM127 hX101 hM236 (by decide) (Or.inr (Or.inl rfl)), (And.intro ho236 ht236).1, (And.intro ho236 ht236).2, by omega, by omega, by omega, by omega, c241, c243, trivial⟩
                have hM247 : Fq pr [(7, 15), (9, 2), (10, 0), (10, 1), (10, 2), (10, 8), (11, 8), (11, 12), (11, 13), (11, 14), (11, 15), (11, 16), (11, 17), (11, 18)] m tg F F223 := Fq_t (ln := ln) (ln1 := ln62) hM127 hX101 hM226 (by decide) (Or.inr (Or.inl rfl))
                have lm248 := hx224.1
                have lt249 : pr < 64 + (m62 : Int) := ho96.1.2.1
                have lt250 : F (me) (2 : Int) < 64 + (m62 : Int) := by rcases y97 with w | w; (· omega); exact w.1.2.1
                have lt251 : r64 < 64 + (m62 : Int) := b68.1.2.1
                have ho252 : own m222 (me) ∧ tg222 (me) = 9 := Ex_o hx224 ⟨ho95.1, ho95.2⟩
                have ho253 : own m222 (pr) ∧ tg222 (pr) = 7 := Ex_o hx224 ⟨ho96.1, ho96.2⟩
                have y254 : F (me) (2 : Int) = 0 ∨ (own m222 (F (me) (2 : Int)) ∧ tg222 (F (me) (2 : Int)) = 7) := Ex_z hx224 y97
                have ho255 : own m222 (r64) ∧ tg222 (r64) = 7 := Ex_o hx224 ⟨b68.1, b68.2⟩
                have ho256 : own m222 (sc) ∧ tg222 (sc) = 11 := Ex_o hx224 ⟨ho99.1, ho99.2⟩
                have ho257 : own m222 (pg) ∧ tg222 (pg) = 10 := Ex_o hx224 ⟨ho100.1, ho100.2⟩
                have hX258 := Ex_t hX101 hx224
                have c259 : NM m m222 tg222 := NM_t c102 hx224 c235
                refine Or.inl ⟨rfl, ?_⟩
                refine jx_rt (v := none) rfl rfl rfl rfl rfl rfl ?_
                have q260 : F223 (sc) (7 : Int) = F (sc) (7 : Int) := ((show F223 (sc) (7 : Int) = F125 (sc) (7 : Int) from hM226 _ _ ho99.1 (own_z ho99.1) (by rw [ho99.2]; rfl)).trans q217)
                have q261 : F223 (pg) (9 : Int) = F (pg) (9 : Int) := ((show F223 (pg) (9 : Int) = F125 (pg) (9 : Int) from hM226 _ _ ho100.1 (own_z ho100.1) (by rw [ho100.2]; rfl)).trans q221)
                have q262 := tz_b (F223 (sc) (15 : Int))
                have q263 := lz_b (F223 (sc) (14 : Int))
                have q264 : F223 (pg) (9 : Int) = F (pg) (9 : Int) := q261
                exact Or.inl ⟨m222, tg222, ln222, F223, rfl, rfl, hX258, hC225, hM247, by omega, by omega, by omega, by omega, by omega, by omega, by omega, c234, c259, trivial⟩
          · have _q := h110
            refine jx_ld (pc_q := 52) (l_q := L103) (st_q := [rv (pr)]) rfl (jl_rvn g105) ?_
            refine jx_ld (pc_q := 54) (l_q := L103) (st_q := [rv (r64), rv (pr)]) rfl (jl_rv g109) ?_
            refine cx_po (pc_q := 57) (c := 6) (q := 13) (qi := (13 : Int)) (z := r64) rfl rfl (by decide) (by decide) rfl rfl rfl (by decide) rfl ho96.1 ho96.2 rfl ?_
            obtain ⟨F265, eF265⟩ : ∃ q, q = uF F63 (pr) (13 : Int) (r64) := ⟨_, rfl⟩
            rw [← eF265]
            have hC266 : HC 0 m62 tg62 ln62 F265 := by rw [eF265]; exact HC_fr (c := 6) (q := 13) (by decide) hC66 ho96.2 (by decide) rfl (Or.inr ⟨b68.1, b68.2⟩) ⟨fun w => absurd w (by decide), fun w => absurd w (by decide)⟩
            have hM267 : Fq pr [(7, 15), (9, 2), (10, 0), (10, 1), (10, 2), (10, 8), (11, 8), (11, 12), (11, 13), (11, 14), (11, 15), (11, 16), (11, 17), (11, 18)] m tg F F265 := by rw [eF265]; exact Fq_x hM90 (Or.inl rfl)
            have c268 : NP m62 tg62 F265 := by rw [eF265]; exact NP_nm hC66 c78 ho96.2 (Or.inr (Or.inr (Or.inl ⟨rfl, (by rw [show F63 (pr) (13 : Int) = Fx (pr) (13 : Int) from (show F63 (pr) (13 : Int) = Fx (pr) (13 : Int) from hM67 _ _ ho4.1 (own_z ho4.1) (by rw [ho4.2]; rfl))]; omega)⟩)))
            refine jx_go (tg := 66) rfl rfl ?_
            refine jx_ld (pc_q := 68) (l_q := L103) (st_q := [rv (r64)]) rfl (jl_rv g109) ?_
            refine jx_ld (pc_q := 69) (l_q := jSto1 L103 3 (rv (r64))) (st_q := []) rfl (js_rvn (by decide)) ?_
            obtain ⟨L269, eL269⟩ : ∃ q : jL, q = jSto1 L103 3 (rv (r64)) := ⟨_, rfl⟩
            rw [← eL269]
            have g270 : jGet L269 0 = some (rv (me)) := eL269 ▸ jg_nr (by decide) g104
            have g271 : jGet L269 1 = some (rv (pr)) := eL269 ▸ jg_nr (by decide) g105
            have g272 : jGet L269 2 = some (rv (F (me) (2 : Int))) := eL269 ▸ jg_nr (by decide) g106
            have g273 : jGet L269 4 = some (.int (i32 (k))) := eL269 ▸ jg_ne (by decide) g107 rfl
            have g274 : jGet L269 5 = some (rv (r64)) := eL269 ▸ jg_nr (by decide) g109
            have g275 : jGet L269 3 = some (rv (r64)) := eL269 ▸ jg_eq
            clear eL269
            refine jx_ld (pc_q := 70) (l_q := L269) (st_q := [rv (pr)]) rfl (jl_rvn g271) ?_
            refine jx_ar (pc_q := 71) (st_q := [rv (pr), rv (pr)]) rfl rfl ja_dup rfl ?_
            refine cx_gi (pc_q := 74) (c := 6) (q := 8) (v := Fx (pr) (8 : Int)) rfl rfl (by decide) (by decide) (Or.inl rfl) rfl ho96.1 ho96.2 ((show F265 (pr) (8 : Int) = F63 (pr) (8 : Int) from by rw [eF265]; exact uF_j (by decide)).trans (show F63 (pr) (8 : Int) = Fx (pr) (8 : Int) from hM67 _ _ ho4.1 (own_z ho4.1) (by rw [ho4.2]; rfl))) ?_
            have b276 : (-2147483648 : Int) ≤ Fx (pr) (8 : Int) ∧ Fx (pr) (8 : Int) ≤ 2147483647 := by have z := HC_i (c := 6) (q := 8) hC266 ho96.1 ho96.2 (by decide) rfl; rw [show F265 (pr) ((8 : Nat) : Int) = Fx (pr) (8 : Int) from ((show F265 (pr) (8 : Int) = F63 (pr) (8 : Int) from by rw [eF265]; exact uF_j (by decide)).trans (show F63 (pr) (8 : Int) = Fx (pr) (8 : Int) from hM67 _ _ ho4.1 (own_z ho4.1) (by rw [ho4.2]; rfl)))] at z; exact z
            refine jx_ar (pc_q := 75) (st_q := [.int (i32 (1)), .int (i32 (Fx (pr) (8 : Int))), rv (pr)]) rfl rfl rfl rfl ?_
            refine jx_add (pc_q := 76) rfl rfl ?_
            obtain ⟨z277, ez277⟩ : ∃ q, q = (i32 ((Fx (pr) (8 : Int) + 1))).toInt := ⟨_, rfl⟩
            have bz277 : (-2147483648 : Int) ≤ z277 ∧ z277 ≤ 2147483647 := ez277 ▸ i32_rg _
            rw [show i32 ((Fx (pr) (8 : Int) + 1)) = i32 z277 by rw [ez277, i32_of]]
            clear ez277
            refine cx_pi (pc_q := 79) (c := 6) (q := 8) (qi := (8 : Int)) (z := z277) rfl rfl (by decide) (by decide) rfl rfl rfl (by decide) rfl ho96.1 ho96.2 rfl ?_
            obtain ⟨F278, eF278⟩ : ∃ q, q = uF F265 (pr) (8 : Int) (z277) := ⟨_, rfl⟩
            rw [← eF278]
            have hC279 : HC 0 m62 tg62 ln62 F278 := by rw [eF278]; exact HC_fi (c := 6) (q := 8) hC266 ho96.2 (by decide) rfl (by omega) (by omega) ⟨fun w => absurd w (by decide), fun w => absurd w (by decide)⟩
            have hM280 : Fq pr [(7, 15), (9, 2), (10, 0), (10, 1), (10, 2), (10, 8), (11, 8), (11, 12), (11, 13), (11, 14), (11, 15), (11, 16), (11, 17), (11, 18)] m tg F F278 := by rw [eF278]; exact Fq_x hM267 (Or.inl rfl)
            have c281 : NP m62 tg62 F278 := by rw [eF278]; exact NP_u hC266 c268 ho96.2 (by omega)
            refine jx_ld (pc_q := 80) (l_q := L269) (st_q := [rv (me)]) rfl (jl_rvn g270) ?_
            refine cx_gr (pc_q := 83) (c := 8) (q := 1) (v := sc) rfl rfl (by decide) (by decide) rfl rfl ho95.1 ho95.2 (((show F278 (me) (1 : Int) = F265 (me) (1 : Int) from by rw [eF278]; exact uF_j (by decide)).trans ((show F265 (me) (1 : Int) = F63 (me) (1 : Int) from by rw [eF265]; exact uF_j (by decide)).trans ((show F63 (me) (1 : Int) = Fx (me) (1 : Int) from hM67 _ _ ho3.1 (own_z ho3.1) (by rw [ho3.2]; rfl)).trans (show Fx (me) (1 : Int) = F (me) (1 : Int) from hMx _ _ o_me (fun w => by have q1 := ho95.2; rw [w, ho96.2] at q1; exact absurd q1 (by decide)) (by rw [t_me]; rfl))))).trans e_sc) ?_
            refine cx_gi (pc_q := 86) (c := 10) (q := 15) (v := F63 (sc) (15 : Int)) rfl rfl (by decide) (by decide) (Or.inl rfl) rfl ho99.1 ho99.2 ((show F278 (sc) (15 : Int) = F265 (sc) (15 : Int) from by rw [eF278]; exact uF_j (by decide)).trans (show F265 (sc) (15 : Int) = F63 (sc) (15 : Int) from by rw [eF265]; exact uF_j (by decide))) ?_
            have b282 : (-2147483648 : Int) ≤ F63 (sc) (15 : Int) ∧ F63 (sc) (15 : Int) ≤ 2147483647 := by have z := HC_i (c := 10) (q := 15) hC279 ho99.1 ho99.2 (by decide) rfl; rw [show F278 (sc) ((15 : Nat) : Int) = F63 (sc) (15 : Int) from ((show F278 (sc) (15 : Int) = F265 (sc) (15 : Int) from by rw [eF278]; exact uF_j (by decide)).trans (show F265 (sc) (15 : Int) = F63 (sc) (15 : Int) from by rw [eF265]; exact uF_j (by decide)))] at z; exact z
            refine jx_ar (pc_q := 88) (st_q := [.int (i32 (52)), .int (i32 (F63 (sc) (15 : Int)))]) rfl rfl rfl rfl ?_
            refine jx_icmp_ne (pc_q := 91) (tg := 116) rfl rfl rfl (by omega) (by omega) (by decide) (by decide) (fun h283 => ?_) (fun h283 => ?_)
            · have _q := h283
              refine jx_ld (pc_q := 117) (l_q := L269) (st_q := [rv (me)]) rfl (jl_rvn g270) ?_
              refine jx_ar (pc_q := 119) (st_q := [.int (i32 (55)), rv (me)]) rfl rfl rfl rfl ?_
              have q284 : F278 (sc) (8 : Int) = F63 (sc) (8 : Int) := ((show F278 (sc) (8 : Int) = F265 (sc) (8 : Int) from by rw [eF278]; exact uF_a (fun w => by have q1 := ho99.2; have q2 := ho96.2; rw [w, q2] at q1; exact absurd q1 (by decide))).trans (show F265 (sc) (8 : Int) = F63 (sc) (8 : Int) from by rw [eF265]; exact uF_j (by decide)))
              have q285 : F278 (sc) (15 : Int) = F63 (sc) (15 : Int) := ((show F278 (sc) (15 : Int) = F265 (sc) (15 : Int) from by rw [eF278]; exact uF_j (by decide)).trans (show F265 (sc) (15 : Int) = F63 (sc) (15 : Int) from by rw [eF265]; exact uF_j (by decide)))
              have q286 : tz (F278 (sc) (15 : Int)) = tz (F63 (sc) (15 : Int)) := by rw [q285]
              have q287 := tz_b (F63 (sc) (15 : Int))
              have q288 : F278 (sc) (7 : Int) = F (sc) (7 : Int) := ((show F278 (sc) (7 : Int) = F265 (sc) (7 : Int) from by rw [eF278]; exact uF_j (by decide)).trans ((show F265 (sc) (7 : Int) = F63 (sc) (7 : Int) from by rw [eF265]; exact uF_j (by decide)).trans ((show F63 (sc) (7 : Int) = Fx (sc) (7 : Int) from hM67 _ _ ho5.1 (own_z ho5.1) (by rw [ho5.2]; rfl)).trans (show Fx (sc) (7 : Int) = F (sc) (7 : Int) from hMx _ _ o_sc (fun w => by have q1 := ho99.2; rw [w, ho96.2] at q1; exact absurd q1 (by decide)) (by rw [t_sc]; rfl)))))
              have q289 : F278 (sc) (14 : Int) = F63 (sc) (14 : Int) := ((show F278 (sc) (14 : Int) = F265 (sc) (14 : Int) from by rw [eF278]; exact uF_j (by decide)).trans (show F265 (sc) (14 : Int) = F63 (sc) (14 : Int) from by rw [eF265]; exact uF_j (by decide)))
              have q290 : lz (F278 (sc) (14 : Int)) = lz (F63 (sc) (14 : Int)) := by rw [q289]
              have q291 := lz_b (F63 (sc) (14 : Int))
              have q292 : F278 (pg) (9 : Int) = F (pg) (9 : Int) := ((show F278 (pg) (9 : Int) = F265 (pg) (9 : Int) from by rw [eF278]; exact uF_j (by decide)).trans ((show F265 (pg) (9 : Int) = F63 (pg) (9 : Int) from by rw [eF265]; exact uF_j (by decide)).trans ((show F63 (pg) (9 : Int) = Fx (pg) (9 : Int) from hM67 _ _ ho6.1 (own_z ho6.1) (by rw [ho6.2]; rfl)).trans (show Fx (pg) (9 : Int) = F (pg) (9 : Int) from hMx _ _ o_pg (fun w => by have q1 := ho100.2; rw [w, ho96.2] at q1; exact absurd q1 (by decide)) (by rw [t_pg]; rfl)))))
              refine cx_vi (c := 8) (a := me) (st := []) (as := [.int (i32 (55))]) rfl rfl rfl ho95.1 ho95.2 (by decide) rfl ⟨rfl, rfl, (Nat.le_of_ble_eq_true rfl)⟩ rfl (k_LParser_expect (dd := d) (R := R) (m := m62) (tg := tg62) (ln := ln62) (F := F278) (me := me) (tk := 55) (hd := by omega) (hC := hC279) (o_me := ho95.1) (t_me := ho95.2) (h_tk := by omega) (sc := sc) (pg := pg) (o_sc := ho99.1) (t_sc := ho99.2) (e_sc := (((show F278 (me) (1 : Int) = F265 (me) (1 : Int) from by rw [eF278]; exact uF_j (by decide)).trans ((show F265 (me) (1 : Int) = F63 (me) (1 : Int) from by rw [eF265]; exact uF_j (by decide)).trans ((show F63 (me) (1 : Int) = Fx (me) (1 : Int) from hM67 _ _ ho3.1 (own_z ho3.1) (by rw [ho3.2]; rfl)).trans (show Fx (me) (1 : Int) = F (me) (1 : Int) from hMx _ _ o_me (fun w => by have q1 := ho95.2; rw [w, ho96.2] at q1; exact absurd q1 (by decide)) (by rw [t_me]; rfl))))).trans e_sc)) (o_pg := ho100.1) (t_pg := ho100.2) (e_pg := (((show F278 (me) (0 : Int) = F265 (me) (0 : Int) from by rw [eF278]; exact uF_j (by decide)).trans ((show F265 (me) (0 : Int) = F63 (me) (0 : Int) from by rw [eF265]; exact uF_j (by decide)).trans ((show F63 (me) (0 : Int) = Fx (me) (0 : Int) from hM67 _ _ ho3.1 (own_z ho3.1) (by rw [ho3.2]; rfl)).trans (show Fx (me) (0 : Int) = F (me) (0 : Int) from hMx _ _ o_me (fun w => by have q1 := ho95.2; rw [w, ho96.2] at q1; exact absurd q1 (by decide)) (by rw [t_me]; rfl))))).trans e_pg)) (p_0 := by omega) (p_1 := by omega) (p_2 := by omega) (p_3 := by omega) (c_NP := c281)) (fun o V_q hq => ?_)
              obtain ⟨m293, tg293, ln293, F294, rfl, rfl, hx295, hC296, hM297, p298, p299, p300, p301, p302, p303, p304, c305, c306, -⟩ | ⟨m307, tg307, ln307, F307, x307, rfl, rfl, hx307, hC307, hM307, ho307, ht307, p308, p309, p310, p311, c312, c313, -⟩ := hq
              rotate_left
              ·
                have c314 : NM m m307 tg307 := NM_t c102 hx307 c313
                have lm315 := hx307.1
                refine Or.inr (Or.inr (Or.inr ⟨_, _, rfl, cx_exc (c := 15) ho307 ht307 (by decide), rfl, ?_⟩))
                have q316 : F278 (sc) (8 : Int) = F63 (sc) (8 : Int) := q284
                have q317 : F278 (sc) (7 : Int) = F (sc) (7 : Int) := q288
                exact Or.inr ⟨m307, tg307, ln307, F307, x307, rfl, rfl, Ex_t hX101 hx307, hC307, Fq_t (ln := ln) (ln1 := ln62) hM280 hX101 hM307 (by decide) (Or.inr (Or.inl rfl)), (And.intro ho307 ht307).1, (And.intro ho307 ht307).2, by omega, by omega, by omega, by omega, c312, c314, trivial⟩
              have hM318 : Fq pr [(7, 15), (9, 2), (10, 0), (10, 1), (10, 2), (10, 8), (11, 8), (11, 12), (11, 13), (11, 14), (11, 15), (11, 16), (11, 17), (11, 18)] m tg F F294 := Fq_t (ln := ln) (ln1 := ln62) hM280 hX101 hM297 (by decide) (Or.inr (Or.inl rfl))
              have lm319 := hx295.1
              have lt320 : pr < 64 + (m62 : Int) := ho96.1.2.1
              have lt321 : F (me) (2 : Int) < 64 + (m62 : Int) := by rcases y97 with w | w; (· omega); exact w.1.2.1
              have lt322 : r64 < 64 + (m62 : Int) := b68.1.2.1
              have ho323 : own m293 (me) ∧ tg293 (me) = 9 := Ex_o hx295 ⟨ho95.1, ho95.2⟩
              have ho324 : own m293 (pr) ∧ tg293 (pr) = 7 := Ex_o hx295 ⟨ho96.1, ho96.2⟩
              have y325 : F (me) (2 : Int) = 0 ∨ (own m293 (F (me) (2 : Int)) ∧ tg293 (F (me) (2 : Int)) = 7) := Ex_z hx295 y97
              have ho326 : own m293 (r64) ∧ tg293 (r64) = 7 := Ex_o hx295 ⟨b68.1, b68.2⟩
              have ho327 : own m293 (sc) ∧ tg293 (sc) = 11 := Ex_o hx295 ⟨ho99.1, ho99.2⟩
              have ho328 : own m293 (pg) ∧ tg293 (pg) = 10 := Ex_o hx295 ⟨ho100.1, ho100.2⟩
              have hX329 := Ex_t hX101 hx295
              have c330 : NM m m293 tg293 := NM_t c102 hx295 c306
              refine Or.inl ⟨rfl, ?_⟩
              refine jx_rt (v := none) rfl rfl rfl rfl rfl rfl ?_
              have q331 : F294 (sc) (7 : Int) = F (sc) (7 : Int) := ((show F294 (sc) (7 : Int) = F278 (sc) (7 : Int) from hM297 _ _ ho99.1 (own_z ho99.1) (by rw [ho99.2]; rfl)).trans q288)
              have q332 : F294 (pg) (9 : Int) = F (pg) (9 : Int) := ((show F294 (pg) (9 : Int) = F278 (pg) (9 : Int) from hM297 _ _ ho100.1 (own_z ho100.1) (by rw [ho100.2]; rfl)).trans q292)
              have q333 := tz_b (F294 (sc) (15 : Int))
              have q334 := lz_b (F294 (sc) (14 : Int))
              have q335 : F294 (pg) (9 : Int) = F (pg) (9 : Int) := q332
              exact Or.inl ⟨m293, tg293, ln293, F294, rfl, rfl, hX329, hC296, hM318, by omega, by omega, by omega, by omega, by omega, by omega, by omega, c305, c330, trivial⟩
            · have _q := h283
              have t336 : tz (F63 (sc) (15 : Int)) = 1 := tz_p (by omega)
              refine jx_ld (pc_q := 92) (l_q := L269) (st_q := [rv (pr)]) rfl (jl_rvn g271) ?_
              refine cx_gi (pc_q := 95) (c := 6) (q := 8) (v := z277) rfl rfl (by decide) (by decide) (Or.inl rfl) rfl ho96.1 ho96.2 (show F278 (pr) (8 : Int) = z277 from by rw [eF278]; exact uF_e) ?_
              refine jx_ar (pc_q := 97) (st_q := [.int (i32 (6)), .int (i32 (z277))]) rfl rfl rfl rfl ?_
              refine jx_icmp_ne (pc_q := 100) (tg := 103) rfl rfl rfl (by omega) (by omega) (by decide) (by decide) (fun h337 => ?_) (fun h337 => ?_)
              · have _q := h337
                refine jx_ld (pc_q := 104) (l_q := L269) (st_q := [rv (me)]) rfl (jl_rvn g270) ?_
                refine cx_gr (pc_q := 107) (c := 8) (q := 1) (v := sc) rfl rfl (by decide) (by decide) rfl rfl ho95.1 ho95.2 (((show F278 (me) (1 : Int) = F265 (me) (1 : Int) from by rw [eF278]; exact uF_j (by decide)).trans ((show F265 (me) (1 : Int) = F63 (me) (1 : Int) from by rw [eF265]; exact uF_j (by decide)).trans ((show F63 (me) (1 : Int) = Fx (me) (1 : Int) from hM67 _ _ ho3.1 (own_z ho3.1) (by rw [ho3.2]; rfl)).trans (show Fx (me) (1 : Int) = F (me) (1 : Int) from hMx _ _ o_me (fun w => by have q1 := ho95.2; rw [w, ho96.2] at q1; exact absurd q1 (by decide)) (by rw [t_me]; rfl))))).trans e_sc) ?_
                have q338 : F278 (sc) (8 : Int) = F63 (sc) (8 : Int) := ((show F278 (sc) (8 : Int) = F265 (sc) (8 : Int) from by rw [eF278]; exact uF_a (fun w => by have q1 := ho99.2; have q2 := ho96.2; rw [w, q2] at q1; exact absurd q1 (by decide))).trans (show F265 (sc) (8 : Int) = F63 (sc) (8 : Int) from by rw [eF265]; exact uF_j (by decide)))
                have q339 : F278 (sc) (15 : Int) = F63 (sc) (15 : Int) := ((show F278 (sc) (15 : Int) = F265 (sc) (15 : Int) from by rw [eF278]; exact uF_j (by decide)).trans (show F265 (sc) (15 : Int) = F63 (sc) (15 : Int) from by rw [eF265]; exact uF_j (by decide)))
                have q340 : tz (F278 (sc) (15 : Int)) = tz (F63 (sc) (15 : Int)) := by rw [q339]
                have q341 := tz_b (F63 (sc) (15 : Int))
                have q342 : F278 (sc) (7 : Int) = F (sc) (7 : Int) := ((show F278 (sc) (7 : Int) = F265 (sc) (7 : Int) from by rw [eF278]; exact uF_j (by decide)).trans ((show F265 (sc) (7 : Int) = F63 (sc) (7 : Int) from by rw [eF265]; exact uF_j (by decide)).trans ((show F63 (sc) (7 : Int) = Fx (sc) (7 : Int) from hM67 _ _ ho5.1 (own_z ho5.1) (by rw [ho5.2]; rfl)).trans (show Fx (sc) (7 : Int) = F (sc) (7 : Int) from hMx _ _ o_sc (fun w => by have q1 := ho99.2; rw [w, ho96.2] at q1; exact absurd q1 (by decide)) (by rw [t_sc]; rfl)))))
                have q343 : F278 (sc) (14 : Int) = F63 (sc) (14 : Int) := ((show F278 (sc) (14 : Int) = F265 (sc) (14 : Int) from by rw [eF278]; exact uF_j (by decide)).trans (show F265 (sc) (14 : Int) = F63 (sc) (14 : Int) from by rw [eF265]; exact uF_j (by decide)))
                have q344 : lz (F278 (sc) (14 : Int)) = lz (F63 (sc) (14 : Int)) := by rw [q343]
                have q345 := lz_b (F63 (sc) (14 : Int))
                refine cx_vi (c := 10) (a := sc) (st := []) (as := []) rfl rfl rfl ho99.1 ho99.2 (by decide) rfl ⟨rfl, rfl, (Nat.le_of_ble_eq_true rfl)⟩ rfl (k_LScanner_next (dd := d) (R := R) (m := m62) (tg := tg62) (ln := ln62) (F := F278) (me := sc) (hd := by omega) (hC := hC279) (o_me := ho99.1) (t_me := ho99.2) (p_0 := by omega) (p_1 := by omega)) (fun o V_q hq => ?_)
                obtain ⟨F346, rfl, rfl, hC347, hM348, p349, p350, p351, -⟩ := hq
                have hM352 : Fq pr [(7, 15), (9, 2), (10, 0), (10, 1), (10, 2), (10, 8), (11, 8), (11, 12), (11, 13), (11, 14), (11, 15), (11, 16), (11, 17), (11, 18)] m tg F F346 := Fq_t (ln := ln) (ln1 := ln62) hM280 hX101 hM348 (by decide) (Or.inr (Or.inl rfl))
                have c353 : NP m62 tg62 F346 := NP_q hC279 c281 hM348 rfl rfl
                refine Or.inl ⟨rfl, ?_⟩
                refine jx_inc (pc_q := 113) (l_q := jSto1 L269 4 (.int (i32 (k + (1))))) (x := k) rfl g273 (by decide) rfl rfl ?_
                obtain ⟨L354, eL354⟩ : ∃ q : jL, q = jSto1 L269 4 (.int (i32 ((k + (1))))) := ⟨_, rfl⟩
                rw [← eL354]
                have g355 : jGet L354 0 = some (rv (me)) := eL354 ▸ jg_nr (by decide) g270
                have g356 : jGet L354 1 = some (rv (pr)) := eL354 ▸ jg_nr (by decide) g271
                have g357 : jGet L354 2 = some (rv (F (me) (2 : Int))) := eL354 ▸ jg_nr (by decide) g272
                have g358 : jGet L354 5 = some (rv (r64)) := eL354 ▸ jg_nr (by decide) g274
                have g359 : jGet L354 3 = some (rv (r64)) := eL354 ▸ jg_nr (by decide) g275
                have g360 : jGet L354 4 = some (.int (i32 ((k + (1))))) := eL354 ▸ jg_eq
                clear eL354
                refine jx_go (tg := 16) rfl rfl ?_
                have q361 := tz_b (F346 (sc) (15 : Int))
                have q362 := lz_b (F346 (sc) (14 : Int))
                have q363 : F346 (pg) (9 : Int) = F (pg) (9 : Int) := ((show F346 (pg) (9 : Int) = F278 (pg) (9 : Int) from hM348 _ _ ho100.1 (own_z ho100.1) (by rw [ho100.2]; rfl)).trans ((show F278 (pg) (9 : Int) = F265 (pg) (9 : Int) from by rw [eF278]; exact uF_j (by decide)).trans ((show F265 (pg) (9 : Int) = F63 (pg) (9 : Int) from by rw [eF265]; exact uF_j (by decide)).trans ((show F63 (pg) (9 : Int) = Fx (pg) (9 : Int) from hM67 _ _ ho6.1 (own_z ho6.1) (by rw [ho6.2]; rfl)).trans (show Fx (pg) (9 : Int) = F (pg) (9 : Int) from hMx _ _ o_pg (fun w => by have q1 := ho100.2; rw [w, ho96.2] at q1; exact absurd q1 (by decide)) (by rw [t_pg]; rfl))))))
                have q364 : F346 (pr) (13 : Int) = r64 := ((show F346 (pr) (13 : Int) = F278 (pr) (13 : Int) from hM348 _ _ ho96.1 (own_z ho96.1) (by rw [ho96.2]; rfl)).trans ((show F278 (pr) (13 : Int) = F265 (pr) (13 : Int) from by rw [eF278]; exact uF_j (by decide)).trans (show F265 (pr) (13 : Int) = r64 from by rw [eF265]; exact uF_e)))
                have q365 : F346 (r64) (14 : Int) = F63 (r64) (14 : Int) := ((show F346 (r64) (14 : Int) = F278 (r64) (14 : Int) from hM348 _ _ b68.1 (own_z b68.1) (by rw [b68.2]; rfl)).trans ((show F278 (r64) (14 : Int) = F265 (r64) (14 : Int) from by rw [eF278]; exact uF_j (by decide)).trans (show F265 (r64) (14 : Int) = F63 (r64) (14 : Int) from by rw [eF265]; exact uF_j (by decide))))
                exact ih _ (by omega) L354 m62 tg62 ln62 F346 ((k + (1))) (r64) rfl g355 g356 g357 g360 g359 hX101 hC347 hM352 (by omega) (Or.inr ⟨b68.1, b68.2⟩) (by omega) (by omega) (by omega) (by omega) (by omega) (by omega) (by omega) (by omega) (by omega) (by omega) c353 c102
              · have _q := h337
                refine jx_go (tg := 116) rfl rfl ?_
                refine jx_ld (pc_q := 117) (l_q := L269) (st_q := [rv (me)]) rfl (jl_rvn g270) ?_
                refine jx_ar (pc_q := 119) (st_q := [.int (i32 (55)), rv (me)]) rfl rfl rfl rfl ?_
                have q366 : F278 (sc) (8 : Int) = F63 (sc) (8 : Int) := ((show F278 (sc) (8 : Int) = F265 (sc) (8 : Int) from by rw [eF278]; exact uF_a (fun w => by have q1 := ho99.2; have q2 := ho96.2; rw [w, q2] at q1; exact absurd q1 (by decide))).trans (show F265 (sc) (8 : Int) = F63 (sc) (8 : Int) from by rw [eF265]; exact uF_j (by decide)))
                have q367 : F278 (sc) (15 : Int) = F63 (sc) (15 : Int) := ((show F278 (sc) (15 : Int) = F265 (sc) (15 : Int) from by rw [eF278]; exact uF_j (by decide)).trans (show F265 (sc) (15 : Int) = F63 (sc) (15 : Int) from by rw [eF265]; exact uF_j (by decide)))
                have q368 : tz (F278 (sc) (15 : Int)) = tz (F63 (sc) (15 : Int)) := by rw [q367]
                have q369 := tz_b (F63 (sc) (15 : Int))
                have q370 : F278 (sc) (7 : Int) = F (sc) (7 : Int) := ((show F278 (sc) (7 : Int) = F265 (sc) (7 : Int) from by rw [eF278]; exact uF_j (by decide)).trans ((show F265 (sc) (7 : Int) = F63 (sc) (7 : Int) from by rw [eF265]; exact uF_j (by decide)).trans ((show F63 (sc) (7 : Int) = Fx (sc) (7 : Int) from hM67 _ _ ho5.1 (own_z ho5.1) (by rw [ho5.2]; rfl)).trans (show Fx (sc) (7 : Int) = F (sc) (7 : Int) from hMx _ _ o_sc (fun w => by have q1 := ho99.2; rw [w, ho96.2] at q1; exact absurd q1 (by decide)) (by rw [t_sc]; rfl)))))
                have q371 : F278 (sc) (14 : Int) = F63 (sc) (14 : Int) := ((show F278 (sc) (14 : Int) = F265 (sc) (14 : Int) from by rw [eF278]; exact uF_j (by decide)).trans (show F265 (sc) (14 : Int) = F63 (sc) (14 : Int) from by rw [eF265]; exact uF_j (by decide)))
                have q372 : lz (F278 (sc) (14 : Int)) = lz (F63 (sc) (14 : Int)) := by rw [q371]
                have q373 := lz_b (F63 (sc) (14 : Int))
                have q374 : F278 (pg) (9 : Int) = F (pg) (9 : Int) := ((show F278 (pg) (9 : Int) = F265 (pg) (9 : Int) from by rw [eF278]; exact uF_j (by decide)).trans ((show F265 (pg) (9 : Int) = F63 (pg) (9 : Int) from by rw [eF265]; exact uF_j (by decide)).trans ((show F63 (pg) (9 : Int) = Fx (pg) (9 : Int) from hM67 _ _ ho6.1 (own_z ho6.1) (by rw [ho6.2]; rfl)).trans (show Fx (pg) (9 : Int) = F (pg) (9 : Int) from hMx _ _ o_pg (fun w => by have q1 := ho100.2; rw [w, ho96.2] at q1; exact absurd q1 (by decide)) (by rw [t_pg]; rfl)))))
                refine cx_vi (c := 8) (a := me) (st := []) (as := [.int (i32 (55))]) rfl rfl rfl ho95.1 ho95.2 (by decide) rfl ⟨rfl, rfl, (Nat.le_of_ble_eq_true rfl)⟩ rfl (k_LParser_expect (dd := d) (R := R) (m := m62) (tg := tg62) (ln := ln62) (F := F278) (me := me) (tk := 55) (hd := by omega) (hC := hC279) (o_me := ho95.1) (t_me := ho95.2) (h_tk := by omega) (sc := sc) (pg := pg) (o_sc := ho99.1) (t_sc := ho99.2) (e_sc := (((show F278 (me) (1 : Int) = F265 (me) (1 : Int) from by rw [eF278]; exact uF_j (by decide)).trans ((show F265 (me) (1 : Int) = F63 (me) (1 : Int) from by rw [eF265]; exact uF_j (by decide)).trans ((show F63 (me) (1 : Int) = Fx (me) (1 : Int) from hM67 _ _ ho3.1 (own_z ho3.1) (by rw [ho3.2]; rfl)).trans (show Fx (me) (1 : Int) = F (me) (1 : Int) from hMx _ _ o_me (fun w => by have q1 := ho95.2; rw [w, ho96.2] at q1; exact absurd q1 (by decide)) (by rw [t_me]; rfl))))).trans e_sc)) (o_pg := ho100.1) (t_pg := ho100.2) (e_pg := (((show F278 (me) (0 : Int) = F265 (me) (0 : Int) from by rw [eF278]; exact uF_j (by decide)).trans ((show F265 (me) (0 : Int) = F63 (me) (0 : Int) from by rw [eF265]; exact uF_j (by decide)).trans ((show F63 (me) (0 : Int) = Fx (me) (0 : Int) from hM67 _ _ ho3.1 (own_z ho3.1) (by rw [ho3.2]; rfl)).trans (show Fx (me) (0 : Int) = F (me) (0 : Int) from hMx _ _ o_me (fun w => by have q1 := ho95.2; rw [w, ho96.2] at q1; exact absurd q1 (by decide)) (by rw [t_me]; rfl))))).trans e_pg)) (p_0 := by omega) (p_1 := by omega) (p_2 := by omega) (p_3 := by omega) (c_NP := c281)) (fun o V_q hq => ?_)
                obtain ⟨m375, tg375, ln375, F376, rfl, rfl, hx377, hC378, hM379, p380, p381, p382, p383, p384, p385, p386, c387, c388, -⟩ | ⟨m389, tg389, ln389, F389, x389, rfl, rfl, hx389, hC389, hM389, ho389, ht389, p390, p391, p392, p393, c394, c395, -⟩ := hq
                rotate_left
                ·
                  have c396 : NM m m389 tg389 := NM_t c102 hx389 c395
                  have lm397 := hx389.1
                  refine Or.inr (Or.inr (Or.inr ⟨_, _, rfl, cx_exc (c := 15) ho389 ht389 (by decide), rfl, ?_⟩))
                  have q398 : F278 (sc) (8 : Int) = F63 (sc) (8 : Int) := q366
                  have q399 : F278 (sc) (7 : Int) = F (sc) (7 : Int) := q370
                  exact Or.inr ⟨m389, tg389, ln389, F389, x389, rfl, rfl, Ex_t hX101 hx389, hC389, Fq_t (ln := ln) (ln1 := ln62) hM280 hX101 hM389 (by decide) (Or.inr (Or.inl rfl)), (And.intro ho389 ht389).1, (And.intro ho389 ht389).2, by omega, by omega, by omega, by omega, c394, c396, trivial⟩
                have hM400 : Fq pr [(7, 15), (9, 2), (10, 0), (10, 1), (10, 2), (10, 8), (11, 8), (11, 12), (11, 13), (11, 14), (11, 15), (11, 16), (11, 17), (11, 18)] m tg F F376 := Fq_t (ln := ln) (ln1 := ln62) hM280 hX101 hM379 (by decide) (Or.inr (Or.inl rfl))
                have lm401 := hx377.1
                have lt402 : pr < 64 + (m62 : Int) := ho96.1.2.1
                have lt403 : F (me) (2 : Int) < 64 + (m62 : Int) := by rcases y97 with w | w; (· omega); exact w.1.2.1
                have lt404 : r64 < 64 + (m62 : Int) := b68.1.2.1
                have ho405 : own m375 (me) ∧ tg375 (me) = 9 := Ex_o hx377 ⟨ho95.1, ho95.2⟩
                have ho406 : own m375 (pr) ∧ tg375 (pr) = 7 := Ex_o hx377 ⟨ho96.1, ho96.2⟩
                have y407 : F (me) (2 : Int) = 0 ∨ (own m375 (F (me) (2 : Int)) ∧ tg375 (F (me) (2 : Int)) = 7) := Ex_z hx377 y97
                have ho408 : own m375 (r64) ∧ tg375 (r64) = 7 := Ex_o hx377 ⟨b68.1, b68.2⟩
                have ho409 : own m375 (sc) ∧ tg375 (sc) = 11 := Ex_o hx377 ⟨ho99.1, ho99.2⟩
                have ho410 : own m375 (pg) ∧ tg375 (pg) = 10 := Ex_o hx377 ⟨ho100.1, ho100.2⟩
                have hX411 := Ex_t hX101 hx377
                have c412 : NM m m375 tg375 := NM_t c102 hx377 c388
                refine Or.inl ⟨rfl, ?_⟩
                refine jx_rt (v := none) rfl rfl rfl rfl rfl rfl ?_
                have q413 : F376 (sc) (7 : Int) = F (sc) (7 : Int) := ((show F376 (sc) (7 : Int) = F278 (sc) (7 : Int) from hM379 _ _ ho99.1 (own_z ho99.1) (by rw [ho99.2]; rfl)).trans q370)
                have q414 : F376 (pg) (9 : Int) = F (pg) (9 : Int) := ((show F376 (pg) (9 : Int) = F278 (pg) (9 : Int) from hM379 _ _ ho100.1 (own_z ho100.1) (by rw [ho100.2]; rfl)).trans q374)
                have q415 := tz_b (F376 (sc) (15 : Int))
                have q416 := lz_b (F376 (sc) (14 : Int))
                have q417 : F376 (pg) (9 : Int) = F (pg) (9 : Int) := q414
                exact Or.inl ⟨m375, tg375, ln375, F376, rfl, rfl, hX411, hC378, hM400, by omega, by omega, by omega, by omega, by omega, by omega, by omega, c387, c412, trivial⟩
        · have _q := h57
          refine jx_ld (pc_q := 29) (l_q := L) (st_q := [rv (me)]) rfl (jl_rvn gL_0) ?_
          refine cx_gr (pc_q := 32) (c := 8) (q := 1) (v := sc) rfl rfl (by decide) (by decide) rfl rfl ho3.1 ho3.2 ((show Fx (me) (1 : Int) = F (me) (1 : Int) from hMx _ _ o_me (fun w => by have q1 := ho3.2; rw [w, ho4.2] at q1; exact absurd q1 (by decide)) (by rw [t_me]; rfl)).trans e_sc) ?_
          refine cx_gi (pc_q := 35) (c := 10) (q := 15) (v := Fx (sc) (15 : Int)) rfl rfl (by decide) (by decide) (Or.inl rfl) rfl ho5.1 ho5.2 rfl ?_
          have b418 : (-2147483648 : Int) ≤ Fx (sc) (15 : Int) ∧ Fx (sc) (15 : Int) ≤ 2147483647 := by have z := HC_i (c := 10) (q := 15) hCx ho5.1 ho5.2 (by decide) rfl; rw [show Fx (sc) ((15 : Nat) : Int) = Fx (sc) (15 : Int) from rfl] at z; exact z
          refine jx_ar (pc_q := 37) (st_q := [.int (i32 (55)), .int (i32 (Fx (sc) (15 : Int)))]) rfl rfl rfl rfl ?_
          refine jx_icmp_eq (pc_q := 40) (tg := 116) rfl rfl rfl (by omega) (by omega) (by decide) (by decide) (fun h419 => ?_) (fun h419 => ?_)
          · have _q := h419
            have t420 : tz (Fx (sc) (15 : Int)) = 1 := tz_p (by omega)
            refine jx_ld (pc_q := 117) (l_q := L) (st_q := [rv (me)]) rfl (jl_rvn gL_0) ?_
            refine jx_ar (pc_q := 119) (st_q := [.int (i32 (55)), rv (me)]) rfl rfl rfl rfl ?_
            have q421 := tz_b (Fx (sc) (15 : Int))
            have q422 : Fx (sc) (7 : Int) = F (sc) (7 : Int) := (show Fx (sc) (7 : Int) = F (sc) (7 : Int) from hMx _ _ o_sc (fun w => by have q1 := ho5.2; rw [w, ho4.2] at q1; exact absurd q1 (by decide)) (by rw [t_sc]; rfl))
            have q423 := lz_b (Fx (sc) (14 : Int))
            have q424 : Fx (pg) (9 : Int) = F (pg) (9 : Int) := (show Fx (pg) (9 : Int) = F (pg) (9 : Int) from hMx _ _ o_pg (fun w => by have q1 := ho6.2; rw [w, ho4.2] at q1; exact absurd q1 (by decide)) (by rw [t_pg]; rfl))
            refine cx_vi (c := 8) (a := me) (st := []) (as := [.int (i32 (55))]) rfl rfl rfl ho3.1 ho3.2 (by decide) rfl ⟨rfl, rfl, (Nat.le_of_ble_eq_true rfl)⟩ rfl (k_LParser_expect (dd := d) (R := R) (m := mx) (tg := tgx) (ln := lnx) (F := Fx) (me := me) (tk := 55) (hd := by omega) (hC := hCx) (o_me := ho3.1) (t_me := ho3.2) (h_tk := by omega) (sc := sc) (pg := pg) (o_sc := ho5.1) (t_sc := ho5.2) (e_sc := ((show Fx (me) (1 : Int) = F (me) (1 : Int) from hMx _ _ o_me (fun w => by have q1 := ho3.2; rw [w, ho4.2] at q1; exact absurd q1 (by decide)) (by rw [t_me]; rfl)).trans e_sc)) (o_pg := ho6.1) (t_pg := ho6.2) (e_pg := ((show Fx (me) (0 : Int) = F (me) (0 : Int) from hMx _ _ o_me (fun w => by have q1 := ho3.2; rw [w, ho4.2] at q1; exact absurd q1 (by decide)) (by rw [t_me]; rfl)).trans e_pg)) (p_0 := by omega) (p_1 := by omega) (p_2 := by omega) (p_3 := by omega) (c_NP := cx_NP)) (fun o V_q hq => ?_)
            obtain ⟨m425, tg425, ln425, F426, rfl, rfl, hx427, hC428, hM429, p430, p431, p432, p433, p434, p435, p436, c437, c438, -⟩ | ⟨m439, tg439, ln439, F439, x439, rfl, rfl, hx439, hC439, hM439, ho439, ht439, p440, p441, p442, p443, c444, c445, -⟩ := hq
            rotate_left
            ·
              have c446 : NM m m439 tg439 := NM_t cx_NM hx439 c445
              have lm447 := hx439.1
              refine Or.inr (Or.inr (Or.inr ⟨_, _, rfl, cx_exc (c := 15) ho439 ht439 (by decide), rfl, ?_⟩))
              have q448 : Fx (sc) (7 : Int) = F (sc) (7 : Int) := (show Fx (sc) (7 : Int) = F (sc) (7 : Int) from hMx _ _ o_sc (fun w => by have q1 := ho5.2; rw [w, ho4.2] at q1; exact absurd q1 (by decide)) (by rw [t_sc]; rfl))
              exact Or.inr ⟨m439, tg439, ln439, F439, x439, rfl, rfl, Ex_t hXx hx439, hC439, Fq_t (ln := ln) (ln1 := lnx) hMx hXx hM439 (by decide) (Or.inr (Or.inl rfl)), (And.intro ho439 ht439).1, (And.intro ho439 ht439).2, by omega, by omega, by omega, by omega, c444, c446, trivial⟩
            have hM449 : Fq pr [(7, 15), (9, 2), (10, 0), (10, 1), (10, 2), (10, 8), (11, 8), (11, 12), (11, 13), (11, 14), (11, 15), (11, 16), (11, 17), (11, 18)] m tg F F426 := Fq_t (ln := ln) (ln1 := lnx) hMx hXx hM429 (by decide) (Or.inr (Or.inl rfl))
            have lm450 := hx427.1
            have lt451 : pr < 64 + (mx : Int) := ho4.1.2.1
            have lt452 : F (me) (2 : Int) < 64 + (mx : Int) := by rcases y8 with w | w; (· omega); exact w.1.2.1
            have lt453 : la < 64 + (mx : Int) := by rcases yx_la with w | w; (· omega); exact w.1.2.1
            have ho454 : own m425 (me) ∧ tg425 (me) = 9 := Ex_o hx427 ⟨ho3.1, ho3.2⟩
            have ho455 : own m425 (pr) ∧ tg425 (pr) = 7 := Ex_o hx427 ⟨ho4.1, ho4.2⟩
            have y456 : F (me) (2 : Int) = 0 ∨ (own m425 (F (me) (2 : Int)) ∧ tg425 (F (me) (2 : Int)) = 7) := Ex_z hx427 y8
            have y457 : la = 0 ∨ (own m425 (la) ∧ tg425 (la) = 7) := Ex_z hx427 yx_la
            have ho458 : own m425 (sc) ∧ tg425 (sc) = 11 := Ex_o hx427 ⟨ho5.1, ho5.2⟩
            have ho459 : own m425 (pg) ∧ tg425 (pg) = 10 := Ex_o hx427 ⟨ho6.1, ho6.2⟩
            have hX460 := Ex_t hXx hx427
            have c461 : NM m m425 tg425 := NM_t cx_NM hx427 c438
            refine Or.inl ⟨rfl, ?_⟩
            refine jx_rt (v := none) rfl rfl rfl rfl rfl rfl ?_
            have q462 : F426 (sc) (7 : Int) = F (sc) (7 : Int) := ((show F426 (sc) (7 : Int) = Fx (sc) (7 : Int) from hM429 _ _ ho5.1 (own_z ho5.1) (by rw [ho5.2]; rfl)).trans (show Fx (sc) (7 : Int) = F (sc) (7 : Int) from hMx _ _ o_sc (fun w => by have q1 := ho458.2; rw [w, ho455.2] at q1; exact absurd q1 (by decide)) (by rw [t_sc]; rfl)))
            have q463 : F426 (pg) (9 : Int) = F (pg) (9 : Int) := ((show F426 (pg) (9 : Int) = Fx (pg) (9 : Int) from hM429 _ _ ho6.1 (own_z ho6.1) (by rw [ho6.2]; rfl)).trans (show Fx (pg) (9 : Int) = F (pg) (9 : Int) from hMx _ _ o_pg (fun w => by have q1 := ho459.2; rw [w, ho455.2] at q1; exact absurd q1 (by decide)) (by rw [t_pg]; rfl)))
            have q464 := tz_b (F426 (sc) (15 : Int))
            have q465 := lz_b (F426 (sc) (14 : Int))
            have q466 : F426 (pg) (9 : Int) = F (pg) (9 : Int) := q463
            exact Or.inl ⟨m425, tg425, ln425, F426, rfl, rfl, hX460, hC428, hM449, by omega, by omega, by omega, by omega, by omega, by omega, by omega, c437, c461, trivial⟩
          · have _q := h419
            refine jx_ld (pc_q := 41) (l_q := L) (st_q := [rv (me)]) rfl (jl_rvn gL_0) ?_
            refine jx_ld (pc_q := 42) (l_q := L) (st_q := [rv (F (me) (2 : Int)), rv (me)]) rfl (jl_rvn gL_2) ?_
            have q467 := tz_b (Fx (sc) (15 : Int))
            have q468 : Fx (sc) (7 : Int) = F (sc) (7 : Int) := (show Fx (sc) (7 : Int) = F (sc) (7 : Int) from hMx _ _ o_sc (fun w => by have q1 := ho5.2; rw [w, ho4.2] at q1; exact absurd q1 (by decide)) (by rw [t_sc]; rfl))
            have q469 := lz_b (Fx (sc) (14 : Int))
            have q470 : Fx (pg) (9 : Int) = F (pg) (9 : Int) := (show Fx (pg) (9 : Int) = F (pg) (9 : Int) from hMx _ _ o_pg (fun w => by have q1 := ho6.2; rw [w, ho4.2] at q1; exact absurd q1 (by decide)) (by rw [t_pg]; rfl))
            refine cx_vi (c := 8) (a := me) (st := []) (as := [rv (F (me) (2 : Int))]) rfl rfl rfl ho3.1 ho3.2 (by decide) rfl ⟨rfl, rfl, (Nat.le_of_ble_eq_true rfl)⟩ rfl (k_LParser_readParameter (dd := d) (R := R) (m := mx) (tg := tgx) (ln := lnx) (F := Fx) (me := me) (bf := F (me) (2 : Int)) (hd := by omega) (hC := hCx) (o_me := ho3.1) (t_me := ho3.2) (y_bf := y8) (sc := sc) (pg := pg) (o_sc := ho5.1) (t_sc := ho5.2) (e_sc := ((show Fx (me) (1 : Int) = F (me) (1 : Int) from hMx _ _ o_me (fun w => by have q1 := ho3.2; rw [w, ho4.2] at q1; exact absurd q1 (by decide)) (by rw [t_me]; rfl)).trans e_sc)) (o_pg := ho6.1) (t_pg := ho6.2) (e_pg := ((show Fx (me) (0 : Int) = F (me) (0 : Int) from hMx _ _ o_me (fun w => by have q1 := ho3.2; rw [w, ho4.2] at q1; exact absurd q1 (by decide)) (by rw [t_me]; rfl)).trans e_pg)) (p_0 := by omega) (p_1 := by omega) (p_2 := by omega) (c_NP := cx_NP)) (fun o V_q hq => ?_)
            obtain ⟨m471, tg471, ln471, F472, r473, rfl, rfl, hx474, hC475, hM476, b477, p478, p479, p480, p481, p482, p483, p484, p485, p486, c487, c488, -⟩ | ⟨m489, tg489, ln489, F489, x489, rfl, rfl, hx489, hC489, hM489, ho489, ht489, p490, p491, p492, p493, c494, c495, -⟩ := hq
            rotate_left
            ·
              have c496 : NM m m489 tg489 := NM_t cx_NM hx489 c495
              have lm497 := hx489.1
              refine Or.inr (Or.inr (Or.inr ⟨_, _, rfl, cx_exc (c := 15) ho489 ht489 (by decide), rfl, ?_⟩))
              have q498 : Fx (sc) (7 : Int) = F (sc) (7 : Int) := (show Fx (sc) (7 : Int) = F (sc) (7 : Int) from hMx _ _ o_sc (fun w => by have q1 := ho5.2; rw [w, ho4.2] at q1; exact absurd q1 (by decide)) (by rw [t_sc]; rfl))
              exact Or.inr ⟨m489, tg489, ln489, F489, x489, rfl, rfl, Ex_t hXx hx489, hC489, Fq_t (ln := ln) (ln1 := lnx) hMx hXx hM489 (by decide) (Or.inr (Or.inl rfl)), (And.intro ho489 ht489).1, (And.intro ho489 ht489).2, by omega, by omega, by omega, by omega, c494, c496, trivial⟩
            have hM499 : Fq pr [(7, 15), (9, 2), (10, 0), (10, 1), (10, 2), (10, 8), (11, 8), (11, 12), (11, 13), (11, 14), (11, 15), (11, 16), (11, 17), (11, 18)] m tg F F472 := Fq_t (ln := ln) (ln1 := lnx) hMx hXx hM476 (by decide) (Or.inr (Or.inl rfl))
            have lm500 := hx474.1
            have lt501 : pr < 64 + (mx : Int) := ho4.1.2.1
            have lt502 : F (me) (2 : Int) < 64 + (mx : Int) := by rcases y8 with w | w; (· omega); exact w.1.2.1
            have lt503 : la < 64 + (mx : Int) := by rcases yx_la with w | w; (· omega); exact w.1.2.1
            have ho504 : own m471 (me) ∧ tg471 (me) = 9 := Ex_o hx474 ⟨ho3.1, ho3.2⟩
            have ho505 : own m471 (pr) ∧ tg471 (pr) = 7 := Ex_o hx474 ⟨ho4.1, ho4.2⟩
            have y506 : F (me) (2 : Int) = 0 ∨ (own m471 (F (me) (2 : Int)) ∧ tg471 (F (me) (2 : Int)) = 7) := Ex_z hx474 y8
            have y507 : la = 0 ∨ (own m471 (la) ∧ tg471 (la) = 7) := Ex_z hx474 yx_la
            have ho508 : own m471 (sc) ∧ tg471 (sc) = 11 := Ex_o hx474 ⟨ho5.1, ho5.2⟩
            have ho509 : own m471 (pg) ∧ tg471 (pg) = 10 := Ex_o hx474 ⟨ho6.1, ho6.2⟩
            have hX510 := Ex_t hXx hx474
            have c511 : NM m m471 tg471 := NM_t cx_NM hx474 c488
            refine Or.inr (Or.inl ⟨_, rfl, ?_⟩)
            refine jx_ld (pc_q := 47) (l_q := jSto1 L 5 (rv (r473))) (st_q := []) rfl (js_rv (by decide)) ?_
            obtain ⟨L512, eL512⟩ : ∃ q : jL, q = jSto1 L 5 (rv (r473)) := ⟨_, rfl⟩
            rw [← eL512]
            have g513 : jGet L512 0 = some (rv (me)) := eL512 ▸ jg_nr (by decide) gL_0
            have g514 : jGet L512 1 = some (rv (pr)) := eL512 ▸ jg_nr (by decide) gL_1
            have g515 : jGet L512 2 = some (rv (F (me) (2 : Int))) := eL512 ▸ jg_nr (by decide) gL_2
            have g516 : jGet L512 4 = some (.int (i32 (k))) := eL512 ▸ jg_ne (by decide) gL_4 rfl
            have g517 : jGet L512 3 = some (rv (la)) := eL512 ▸ jg_nr (by decide) gL_3
            have g518 : jGet L512 5 = some (rv (r473)) := eL512 ▸ jg_eq
            clear eL512
            refine jx_ld (pc_q := 48) (l_q := L512) (st_q := [rv (la)]) rfl (jl_rvn g517) ?_
            refine cx_non (pc_q := 51) (tg_q := 60) rfl rfl rfl (fun h519 => ?_) (fun h519 => ?_)
            · have _q := h519
              have ho520 : own m471 (la) ∧ tg471 (la) = 7 := y507.resolve_left h519
              refine jx_ld (pc_q := 61) (l_q := L512) (st_q := [rv (la)]) rfl (jl_rvn g517) ?_
              refine jx_ld (pc_q := 63) (l_q := L512) (st_q := [rv (r473), rv (la)]) rfl (jl_rv g518) ?_
              refine cx_po (pc_q := 66) (c := 6) (q := 14) (qi := (14 : Int)) (z := r473) rfl rfl (by decide) (by decide) rfl rfl rfl (by decide) rfl ho520.1 ho520.2 rfl ?_
              obtain ⟨F521, eF521⟩ : ∃ q, q = uF F472 (la) (14 : Int) (r473) := ⟨_, rfl⟩
              rw [← eF521]
              have hC522 : HC 0 m471 tg471 ln471 F521 := by rw [eF521]; exact HC_fr (c := 6) (q := 14) (by decide) hC475 ho520.2 (by decide) rfl (Or.inr ⟨b477.1, b477.2⟩) ⟨fun w => absurd w (by decide), fun w => absurd w (by decide)⟩
              have hM523 : Fq pr [(7, 15), (9, 2), (10, 0), (10, 1), (10, 2), (10, 8), (11, 8), (11, 12), (11, 13), (11, 14), (11, 15), (11, 16), (11, 17), (11, 18)] m tg F F521 := by rw [eF521]; exact Fq_x hM499 (Or.inr (by omega))
              have c524 : NP m471 tg471 F521 := by rw [eF521]; exact NP_nm hC475 c487 ho520.2 (Or.inl ⟨rfl, (by omega), by omega⟩)
              refine jx_ld (pc_q := 68) (l_q := L512) (st_q := [rv (r473)]) rfl (jl_rv g518) ?_
              refine jx_ld (pc_q := 69) (l_q := jSto1 L512 3 (rv (r473))) (st_q := []) rfl (js_rvn (by decide)) ?_
              obtain ⟨L525, eL525⟩ : ∃ q : jL, q = jSto1 L512 3 (rv (r473)) := ⟨_, rfl⟩
              rw [← eL525]
              have g526 : jGet L525 0 = some (rv (me)) := eL525 ▸ jg_nr (by decide) g513
              have g527 : jGet L525 1 = some (rv (pr)) := eL525 ▸ jg_nr (by decide) g514
              have g528 : jGet L525 2 = some (rv (F (me) (2 : Int))) := eL525 ▸ jg_nr (by decide) g515
              have g529 : jGet L525 4 = some (.int (i32 (k))) := eL525 ▸ jg_ne (by decide) g516 rfl
              have g530 : jGet L525 5 = some (rv (r473)) := eL525 ▸ jg_nr (by decide) g518
              have g531 : jGet L525 3 = some (rv (r473)) := eL525 ▸ jg_eq
              clear eL525
              refine jx_ld (pc_q := 70) (l_q := L525) (st_q := [rv (pr)]) rfl (jl_rvn g527) ?_
              refine jx_ar (pc_q := 71) (st_q := [rv (pr), rv (pr)]) rfl rfl ja_dup rfl ?_
              refine cx_gi (pc_q := 74) (c := 6) (q := 8) (v := Fx (pr) (8 : Int)) rfl rfl (by decide) (by decide) (Or.inl rfl) rfl ho505.1 ho505.2 ((show F521 (pr) (8 : Int) = F472 (pr) (8 : Int) from by rw [eF521]; exact uF_j (by decide)).trans (show F472 (pr) (8 : Int) = Fx (pr) (8 : Int) from hM476 _ _ ho4.1 (own_z ho4.1) (by rw [ho4.2]; rfl))) ?_
              have b532 : (-2147483648 : Int) ≤ Fx (pr) (8 : Int) ∧ Fx (pr) (8 : Int) ≤ 2147483647 := by have z := HC_i (c := 6) (q := 8) hC522 ho505.1 ho505.2 (by decide) rfl; rw [show F521 (pr) ((8 : Nat) : Int) = Fx (pr) (8 : Int) from ((show F521 (pr) (8 : Int) = F472 (pr) (8 : Int) from by rw [eF521]; exact uF_j (by decide)).trans (show F472 (pr) (8 : Int) = Fx (pr) (8 : Int) from hM476 _ _ ho4.1 (own_z ho4.1) (by rw [ho4.2]; rfl)))] at z; exact z
              refine jx_ar (pc_q := 75) (st_q := [.int (i32 (1)), .int (i32 (Fx (pr) (8 : Int))), rv (pr)]) rfl rfl rfl rfl ?_
              refine jx_add (pc_q := 76) rfl rfl ?_
              obtain ⟨z533, ez533⟩ : ∃ q, q = (i32 ((Fx (pr) (8 : Int) + 1))).toInt := ⟨_, rfl⟩
              have bz533 : (-2147483648 : Int) ≤ z533 ∧ z533 ≤ 2147483647 := ez533 ▸ i32_rg _
              rw [show i32 ((Fx (pr) (8 : Int) + 1)) = i32 z533 by rw [ez533, i32_of]]
              clear ez533
              refine cx_pi (pc_q := 79) (c := 6) (q := 8) (qi := (8 : Int)) (z := z533) rfl rfl (by decide) (by decide) rfl rfl rfl (by decide) rfl ho505.1 ho505.2 rfl ?_
              obtain ⟨F534, eF534⟩ : ∃ q, q = uF F521 (pr) (8 : Int) (z533) := ⟨_, rfl⟩
              rw [← eF534]
              have hC535 : HC 0 m471 tg471 ln471 F534 := by rw [eF534]; exact HC_fi (c := 6) (q := 8) hC522 ho505.2 (by decide) rfl (by omega) (by omega) ⟨fun w => absurd w (by decide), fun w => absurd w (by decide)⟩
              have hM536 : Fq pr [(7, 15), (9, 2), (10, 0), (10, 1), (10, 2), (10, 8), (11, 8), (11, 12), (11, 13), (11, 14), (11, 15), (11, 16), (11, 17), (11, 18)] m tg F F534 := by rw [eF534]; exact Fq_x hM523 (Or.inl rfl)
              have c537 : NP m471 tg471 F534 := by rw [eF534]; exact NP_u hC522 c524 ho505.2 (by omega)
              refine jx_ld (pc_q := 80) (l_q := L525) (st_q := [rv (me)]) rfl (jl_rvn g526) ?_
              refine cx_gr (pc_q := 83) (c := 8) (q := 1) (v := sc) rfl rfl (by decide) (by decide) rfl rfl ho504.1 ho504.2 (((show F534 (me) (1 : Int) = F521 (me) (1 : Int) from by rw [eF534]; exact uF_j (by decide)).trans ((show F521 (me) (1 : Int) = F472 (me) (1 : Int) from by rw [eF521]; exact uF_j (by decide)).trans ((show F472 (me) (1 : Int) = Fx (me) (1 : Int) from hM476 _ _ ho3.1 (own_z ho3.1) (by rw [ho3.2]; rfl)).trans (show Fx (me) (1 : Int) = F (me) (1 : Int) from hMx _ _ o_me (fun w => by have q1 := ho504.2; rw [w, ho505.2] at q1; exact absurd q1 (by decide)) (by rw [t_me]; rfl))))).trans e_sc) ?_
              refine cx_gi (pc_q := 86) (c := 10) (q := 15) (v := F472 (sc) (15 : Int)) rfl rfl (by decide) (by decide) (Or.inl rfl) rfl ho508.1 ho508.2 ((show F534 (sc) (15 : Int) = F521 (sc) (15 : Int) from by rw [eF534]; exact uF_j (by decide)).trans (show F521 (sc) (15 : Int) = F472 (sc) (15 : Int) from by rw [eF521]; exact uF_j (by decide))) ?_
              have b538 : (-2147483648 : Int) ≤ F472 (sc) (15 : Int) ∧ F472 (sc) (15 : Int) ≤ 2147483647 := by have z := HC_i (c := 10) (q := 15) hC535 ho508.1 ho508.2 (by decide) rfl; rw [show F534 (sc) ((15 : Nat) : Int) = F472 (sc) (15 : Int) from ((show F534 (sc) (15 : Int) = F521 (sc) (15 : Int) from by rw [eF534]; exact uF_j (by decide)).trans (show F521 (sc) (15 : Int) = F472 (sc) (15 : Int) from by rw [eF521]; exact uF_j (by decide)))] at z; exact z
              refine jx_ar (pc_q := 88) (st_q := [.int (i32 (52)), .int (i32 (F472 (sc) (15 : Int)))]) rfl rfl rfl rfl ?_
              refine jx_icmp_ne (pc_q := 91) (tg := 116) rfl rfl rfl (by omega) (by omega) (by decide) (by decide) (fun h539 => ?_) (fun h539 => ?_)
              · have _q := h539
                refine jx_ld (pc_q := 117) (l_q := L525) (st_q := [rv (me)]) rfl (jl_rvn g526) ?_
                refine jx_ar (pc_q := 119) (st_q := [.int (i32 (55)), rv (me)]) rfl rfl rfl rfl ?_
                have q540 : F534 (sc) (8 : Int) = F472 (sc) (8 : Int) := ((show F534 (sc) (8 : Int) = F521 (sc) (8 : Int) from by rw [eF534]; exact uF_a (fun w => by have q1 := ho508.2; have q2 := ho505.2; rw [w, q2] at q1; exact absurd q1 (by decide))).trans (show F521 (sc) (8 : Int) = F472 (sc) (8 : Int) from by rw [eF521]; exact uF_j (by decide)))
                have q541 : F534 (sc) (15 : Int) = F472 (sc) (15 : Int) := ((show F534 (sc) (15 : Int) = F521 (sc) (15 : Int) from by rw [eF534]; exact uF_j (by decide)).trans (show F521 (sc) (15 : Int) = F472 (sc) (15 : Int) from by rw [eF521]; exact uF_j (by decide)))
                have q542 : tz (F534 (sc) (15 : Int)) = tz (F472 (sc) (15 : Int)) := by rw [q541]
                have q543 := tz_b (F472 (sc) (15 : Int))
                have q544 : F534 (sc) (7 : Int) = F (sc) (7 : Int) := ((show F534 (sc) (7 : Int) = F521 (sc) (7 : Int) from by rw [eF534]; exact uF_j (by decide)).trans ((show F521 (sc) (7 : Int) = F472 (sc) (7 : Int) from by rw [eF521]; exact uF_j (by decide)).trans ((show F472 (sc) (7 : Int) = Fx (sc) (7 : Int) from hM476 _ _ ho5.1 (own_z ho5.1) (by rw [ho5.2]; rfl)).trans (show Fx (sc) (7 : Int) = F (sc) (7 : Int) from hMx _ _ o_sc (fun w => by have q1 := ho508.2; rw [w, ho505.2] at q1; exact absurd q1 (by decide)) (by rw [t_sc]; rfl)))))
                have q545 : F534 (sc) (14 : Int) = F472 (sc) (14 : Int) := ((show F534 (sc) (14 : Int) = F521 (sc) (14 : Int) from by rw [eF534]; exact uF_j (by decide)).trans (show F521 (sc) (14 : Int) = F472 (sc) (14 : Int) from by rw [eF521]; exact uF_a (fun w => by have q1 := ho508.2; have q2 := ho520.2; rw [w, q2] at q1; exact absurd q1 (by decide))))
                have q546 : lz (F534 (sc) (14 : Int)) = lz (F472 (sc) (14 : Int)) := by rw [q545]
                have q547 := lz_b (F472 (sc) (14 : Int))
                have q548 : F534 (pg) (9 : Int) = F (pg) (9 : Int) := ((show F534 (pg) (9 : Int) = F521 (pg) (9 : Int) from by rw [eF534]; exact uF_j (by decide)).trans ((show F521 (pg) (9 : Int) = F472 (pg) (9 : Int) from by rw [eF521]; exact uF_j (by decide)).trans ((show F472 (pg) (9 : Int) = Fx (pg) (9 : Int) from hM476 _ _ ho6.1 (own_z ho6.1) (by rw [ho6.2]; rfl)).trans (show Fx (pg) (9 : Int) = F (pg) (9 : Int) from hMx _ _ o_pg (fun w => by have q1 := ho509.2; rw [w, ho505.2] at q1; exact absurd q1 (by decide)) (by rw [t_pg]; rfl)))))
                refine cx_vi (c := 8) (a := me) (st := []) (as := [.int (i32 (55))]) rfl rfl rfl ho504.1 ho504.2 (by decide) rfl ⟨rfl, rfl, (Nat.le_of_ble_eq_true rfl)⟩ rfl (k_LParser_expect (dd := d) (R := R) (m := m471) (tg := tg471) (ln := ln471) (F := F534) (me := me) (tk := 55) (hd := by omega) (hC := hC535) (o_me := ho504.1) (t_me := ho504.2) (h_tk := by omega) (sc := sc) (pg := pg) (o_sc := ho508.1) (t_sc := ho508.2) (e_sc := (((show F534 (me) (1 : Int) = F521 (me) (1 : Int) from by rw [eF534]; exact uF_j (by decide)).trans ((show F521 (me) (1 : Int) = F472 (me) (1 : Int) from by rw [eF521]; exact uF_j (by decide)).trans ((show F472 (me) (1 : Int) = Fx (me) (1 : Int) from hM476 _ _ ho3.1 (own_z ho3.1) (by rw [ho3.2]; rfl)).trans (show Fx (me) (1 : Int) = F (me) (1 : Int) from hMx _ _ o_me (fun w => by have q1 := ho504.2; rw [w, ho505.2] at q1; exact absurd q1 (by decide)) (by rw [t_me]; rfl))))).trans e_sc)) (o_pg := ho509.1) (t_pg := ho509.2) (e_pg := (((show F534 (me) (0 : Int) = F521 (me) (0 : Int) from by rw [eF534]; exact uF_j (by decide)).trans ((show F521 (me) (0 : Int) = F472 (me) (0 : Int) from by rw [eF521]; exact uF_j (by decide)).trans ((show F472 (me) (0 : Int) = Fx (me) (0 : Int) from hM476 _ _ ho3.1 (own_z ho3.1) (by rw [ho3.2]; rfl)).trans (show Fx (me) (0 : Int) = F (me) (0 : Int) from hMx _ _ o_me (fun w => by have q1 := ho504.2; rw [w, ho505.2] at q1; exact absurd q1 (by decide)) (by rw [t_me]; rfl))))).trans e_pg)) (p_0 := by omega) (p_1 := by omega) (p_2 := by omega) (p_3 := by omega) (c_NP := c537)) (fun o V_q hq => ?_)
                obtain ⟨m549, tg549, ln549, F550, rfl, rfl, hx551, hC552, hM553, p554, p555, p556, p557, p558, p559, p560, c561, c562, -⟩ | ⟨m563, tg563, ln563, F563, x563, rfl, rfl, hx563, hC563, hM563, ho563, ht563, p564, p565, p566, p567, c568, c569, -⟩ := hq
                rotate_left
                ·
                  have c570 : NM m m563 tg563 := NM_t c511 hx563 c569
                  have lm571 := hx563.1
                  refine Or.inr (Or.inr (Or.inr ⟨_, _, rfl, cx_exc (c := 15) ho563 ht563 (by decide), rfl, ?_⟩))
                  have q572 : F534 (sc) (8 : Int) = F472 (sc) (8 : Int) := q540
                  have q573 : F534 (sc) (7 : Int) = F (sc) (7 : Int) := q544
                  exact Or.inr ⟨m563, tg563, ln563, F563, x563, rfl, rfl, Ex_t hX510 hx563, hC563, Fq_t (ln := ln) (ln1 := ln471) hM536 hX510 hM563 (by decide) (Or.inr (Or.inl rfl)), (And.intro ho563 ht563).1, (And.intro ho563 ht563).2, by omega, by omega, by omega, by omega, c568, c570, trivial⟩
                have hM574 : Fq pr [(7, 15), (9, 2), (10, 0), (10, 1), (10, 2), (10, 8), (11, 8), (11, 12), (11, 13), (11, 14), (11, 15), (11, 16), (11, 17), (11, 18)] m tg F F550 := Fq_t (ln := ln) (ln1 := ln471) hM536 hX510 hM553 (by decide) (Or.inr (Or.inl rfl))
                have lm575 := hx551.1
                have lt576 : pr < 64 + (m471 : Int) := ho505.1.2.1
                have lt577 : F (me) (2 : Int) < 64 + (m471 : Int) := by rcases y506 with w | w; (· omega); exact w.1.2.1
                have lt578 : r473 < 64 + (m471 : Int) := b477.1.2.1
                have ho579 : own m549 (me) ∧ tg549 (me) = 9 := Ex_o hx551 ⟨ho504.1, ho504.2⟩
                have ho580 : own m549 (pr) ∧ tg549 (pr) = 7 := Ex_o hx551 ⟨ho505.1, ho505.2⟩
                have y581 : F (me) (2 : Int) = 0 ∨ (own m549 (F (me) (2 : Int)) ∧ tg549 (F (me) (2 : Int)) = 7) := Ex_z hx551 y506
                have ho582 : own m549 (r473) ∧ tg549 (r473) = 7 := Ex_o hx551 ⟨b477.1, b477.2⟩
                have ho583 : own m549 (sc) ∧ tg549 (sc) = 11 := Ex_o hx551 ⟨ho508.1, ho508.2⟩
                have ho584 : own m549 (pg) ∧ tg549 (pg) = 10 := Ex_o hx551 ⟨ho509.1, ho509.2⟩
                have hX585 := Ex_t hX510 hx551
                have c586 : NM m m549 tg549 := NM_t c511 hx551 c562
                refine Or.inl ⟨rfl, ?_⟩
                refine jx_rt (v := none) rfl rfl rfl rfl rfl rfl ?_
                have q587 : F550 (sc) (7 : Int) = F (sc) (7 : Int) := ((show F550 (sc) (7 : Int) = F534 (sc) (7 : Int) from hM553 _ _ ho508.1 (own_z ho508.1) (by rw [ho508.2]; rfl)).trans q544)
                have q588 : F550 (pg) (9 : Int) = F (pg) (9 : Int) := ((show F550 (pg) (9 : Int) = F534 (pg) (9 : Int) from hM553 _ _ ho509.1 (own_z ho509.1) (by rw [ho509.2]; rfl)).trans q548)
                have q589 := tz_b (F550 (sc) (15 : Int))
                have q590 := lz_b (F550 (sc) (14 : Int))
                have q591 : F550 (pg) (9 : Int) = F (pg) (9 : Int) := q588
                exact Or.inl ⟨m549, tg549, ln549, F550, rfl, rfl, hX585, hC552, hM574, by omega, by omega, by omega, by omega, by omega, by omega, by omega, c561, c586, trivial⟩
              · have _q := h539
                have t592 : tz (F472 (sc) (15 : Int)) = 1 := tz_p (by omega)
                refine jx_ld (pc_q := 92) (l_q := L525) (st_q := [rv (pr)]) rfl (jl_rvn g527) ?_
                refine cx_gi (pc_q := 95) (c := 6) (q := 8) (v := z533) rfl rfl (by decide) (by decide) (Or.inl rfl) rfl ho505.1 ho505.2 (show F534 (pr) (8 : Int) = z533 from by rw [eF534]; exact uF_e) ?_
                refine jx_ar (pc_q := 97) (st_q := [.int (i32 (6)), .int (i32 (z533))]) rfl rfl rfl rfl ?_
                refine jx_icmp_ne (pc_q := 100) (tg := 103) rfl rfl rfl (by omega) (by omega) (by decide) (by decide) (fun h593 => ?_) (fun h593 => ?_)
                · have _q := h593
                  refine jx_ld (pc_q := 104) (l_q := L525) (st_q := [rv (me)]) rfl (jl_rvn g526) ?_
                  refine cx_gr (pc_q := 107) (c := 8) (q := 1) (v := sc) rfl rfl (by decide) (by decide) rfl rfl ho504.1 ho504.2 (((show F534 (me) (1 : Int) = F521 (me) (1 : Int) from by rw [eF534]; exact uF_j (by decide)).trans ((show F521 (me) (1 : Int) = F472 (me) (1 : Int) from by rw [eF521]; exact uF_j (by decide)).trans ((show F472 (me) (1 : Int) = Fx (me) (1 : Int) from hM476 _ _ ho3.1 (own_z ho3.1) (by rw [ho3.2]; rfl)).trans (show Fx (me) (1 : Int) = F (me) (1 : Int) from hMx _ _ o_me (fun w => by have q1 := ho504.2; rw [w, ho505.2] at q1; exact absurd q1 (by decide)) (by rw [t_me]; rfl))))).trans e_sc) ?_
                  have q594 : F534 (sc) (8 : Int) = F472 (sc) (8 : Int) := ((show F534 (sc) (8 : Int) = F521 (sc) (8 : Int) from by rw [eF534]; exact uF_a (fun w => by have q1 := ho508.2; have q2 := ho505.2; rw [w, q2] at q1; exact absurd q1 (by decide))).trans (show F521 (sc) (8 : Int) = F472 (sc) (8 : Int) from by rw [eF521]; exact uF_j (by decide)))
                  have q595 : F534 (sc) (15 : Int) = F472 (sc) (15 : Int) := ((show F534 (sc) (15 : Int) = F521 (sc) (15 : Int) from by rw [eF534]; exact uF_j (by decide)).trans (show F521 (sc) (15 : Int) = F472 (sc) (15 : Int) from by rw [eF521]; exact uF_j (by decide)))
                  have q596 : tz (F534 (sc) (15 : Int)) = tz (F472 (sc) (15 : Int)) := by rw [q595]
                  have q597 := tz_b (F472 (sc) (15 : Int))
                  have q598 : F534 (sc) (7 : Int) = F (sc) (7 : Int) := ((show F534 (sc) (7 : Int) = F521 (sc) (7 : Int) from by rw [eF534]; exact uF_j (by decide)).trans ((show F521 (sc) (7 : Int) = F472 (sc) (7 : Int) from by rw [eF521]; exact uF_j (by decide)).trans ((show F472 (sc) (7 : Int) = Fx (sc) (7 : Int) from hM476 _ _ ho5.1 (own_z ho5.1) (by rw [ho5.2]; rfl)).trans (show Fx (sc) (7 : Int) = F (sc) (7 : Int) from hMx _ _ o_sc (fun w => by have q1 := ho508.2; rw [w, ho505.2] at q1; exact absurd q1 (by decide)) (by rw [t_sc]; rfl)))))
                  have q599 : F534 (sc) (14 : Int) = F472 (sc) (14 : Int) := ((show F534 (sc) (14 : Int) = F521 (sc) (14 : Int) from by rw [eF534]; exact uF_j (by decide)).trans (show F521 (sc) (14 : Int) = F472 (sc) (14 : Int) from by rw [eF521]; exact uF_a (fun w => by have q1 := ho508.2; have q2 := ho520.2; rw [w, q2] at q1; exact absurd q1 (by decide))))
                  have q600 : lz (F534 (sc) (14 : Int)) = lz (F472 (sc) (14 : Int)) := by rw [q599]
                  have q601 := lz_b (F472 (sc) (14 : Int))
                  refine cx_vi (c := 10) (a := sc) (st := []) (as := []) rfl rfl rfl ho508.1 ho508.2 (by decide) rfl ⟨rfl, rfl, (Nat.le_of_ble_eq_true rfl)⟩ rfl (k_LScanner_next (dd := d) (R := R) (m := m471) (tg := tg471) (ln := ln471) (F := F534) (me := sc) (hd := by omega) (hC := hC535) (o_me := ho508.1) (t_me := ho508.2) (p_0 := by omega) (p_1 := by omega)) (fun o V_q hq => ?_)
                  obtain ⟨F602, rfl, rfl, hC603, hM604, p605, p606, p607, -⟩ := hq
                  have hM608 : Fq pr [(7, 15), (9, 2), (10, 0), (10, 1), (10, 2), (10, 8), (11, 8), (11, 12), (11, 13), (11, 14), (11, 15), (11, 16), (11, 17), (11, 18)] m tg F F602 := Fq_t (ln := ln) (ln1 := ln471) hM536 hX510 hM604 (by decide) (Or.inr (Or.inl rfl))
                  have c609 : NP m471 tg471 F602 := NP_q hC535 c537 hM604 rfl rfl
                  refine Or.inl ⟨rfl, ?_⟩
                  refine jx_inc (pc_q := 113) (l_q := jSto1 L525 4 (.int (i32 (k + (1))))) (x := k) rfl g529 (by decide) rfl rfl ?_
                  obtain ⟨L610, eL610⟩ : ∃ q : jL, q = jSto1 L525 4 (.int (i32 ((k + (1))))) := ⟨_, rfl⟩
                  rw [← eL610]
                  have g611 : jGet L610 0 = some (rv (me)) := eL610 ▸ jg_nr (by decide) g526
                  have g612 : jGet L610 1 = some (rv (pr)) := eL610 ▸ jg_nr (by decide) g527
                  have g613 : jGet L610 2 = some (rv (F (me) (2 : Int))) := eL610 ▸ jg_nr (by decide) g528
                  have g614 : jGet L610 5 = some (rv (r473)) := eL610 ▸ jg_nr (by decide) g530
                  have g615 : jGet L610 3 = some (rv (r473)) := eL610 ▸ jg_nr (by decide) g531
                  have g616 : jGet L610 4 = some (.int (i32 ((k + (1))))) := eL610 ▸ jg_eq
                  clear eL610
                  refine jx_go (tg := 16) rfl rfl ?_
                  have q617 := tz_b (F602 (sc) (15 : Int))
                  have q618 := lz_b (F602 (sc) (14 : Int))
                  have q619 : F602 (pg) (9 : Int) = F (pg) (9 : Int) := ((show F602 (pg) (9 : Int) = F534 (pg) (9 : Int) from hM604 _ _ ho509.1 (own_z ho509.1) (by rw [ho509.2]; rfl)).trans ((show F534 (pg) (9 : Int) = F521 (pg) (9 : Int) from by rw [eF534]; exact uF_j (by decide)).trans ((show F521 (pg) (9 : Int) = F472 (pg) (9 : Int) from by rw [eF521]; exact uF_j (by decide)).trans ((show F472 (pg) (9 : Int) = Fx (pg) (9 : Int) from hM476 _ _ ho6.1 (own_z ho6.1) (by rw [ho6.2]; rfl)).trans (show Fx (pg) (9 : Int) = F (pg) (9 : Int) from hMx _ _ o_pg (fun w => by have q1 := ho509.2; rw [w, ho505.2] at q1; exact absurd q1 (by decide)) (by rw [t_pg]; rfl))))))
                  have q620 : F602 (pr) (13 : Int) = Fx (pr) (13 : Int) := ((show F602 (pr) (13 : Int) = F534 (pr) (13 : Int) from hM604 _ _ ho505.1 (own_z ho505.1) (by rw [ho505.2]; rfl)).trans ((show F534 (pr) (13 : Int) = F521 (pr) (13 : Int) from by rw [eF534]; exact uF_j (by decide)).trans ((show F521 (pr) (13 : Int) = F472 (pr) (13 : Int) from by rw [eF521]; exact uF_j (by decide)).trans (show F472 (pr) (13 : Int) = Fx (pr) (13 : Int) from hM476 _ _ ho4.1 (own_z ho4.1) (by rw [ho4.2]; rfl)))))
                  have q621 : F602 (r473) (14 : Int) = F472 (r473) (14 : Int) := ((show F602 (r473) (14 : Int) = F534 (r473) (14 : Int) from hM604 _ _ b477.1 (own_z b477.1) (by rw [b477.2]; rfl)).trans ((show F534 (r473) (14 : Int) = F521 (r473) (14 : Int) from by rw [eF534]; exact uF_j (by decide)).trans (show F521 (r473) (14 : Int) = F472 (r473) (14 : Int) from by rw [eF521]; exact uF_a (by omega))))
                  exact ih _ (by omega) L610 m471 tg471 ln471 F602 ((k + (1))) (r473) rfl g611 g612 g613 g616 g615 hX510 hC603 hM608 (by omega) (Or.inr ⟨b477.1, b477.2⟩) (by omega) (by omega) (by omega) (by omega) (by omega) (by omega) (by omega) (by omega) (by omega) (by omega) c609 c511
                · have _q := h593
                  refine jx_go (tg := 116) rfl rfl ?_
                  refine jx_ld (pc_q := 117) (l_q := L525) (st_q := [rv (me)]) rfl (jl_rvn g526) ?_
                  refine jx_ar (pc_q := 119) (st_q := [.int (i32 (55)), rv (me)]) rfl rfl rfl rfl ?_
                  have q622 : F534 (sc) (8 : Int) = F472 (sc) (8 : Int) := ((show F534 (sc) (8 : Int) = F521 (sc) (8 : Int) from by rw [eF534]; exact uF_a (fun w => by have q1 := ho508.2; have q2 := ho505.2; rw [w, q2] at q1; exact absurd q1 (by decide))).trans (show F521 (sc) (8 : Int) = F472 (sc) (8 : Int) from by rw [eF521]; exact uF_j (by decide)))
                  have q623 : F534 (sc) (15 : Int) = F472 (sc) (15 : Int) := ((show F534 (sc) (15 : Int) = F521 (sc) (15 : Int) from by rw [eF534]; exact uF_j (by decide)).trans (show F521 (sc) (15 : Int) = F472 (sc) (15 : Int) from by rw [eF521]; exact uF_j (by decide)))
                  have q624 : tz (F534 (sc) (15 : Int)) = tz (F472 (sc) (15 : Int)) := by rw [q623]
                  have q625 := tz_b (F472 (sc) (15 : Int))
                  have q626 : F534 (sc) (7 : Int) = F (sc) (7 : Int) := ((show F534 (sc) (7 : Int) = F521 (sc) (7 : Int) from by rw [eF534]; exact uF_j (by decide)).trans ((show F521 (sc) (7 : Int) = F472 (sc) (7 : Int) from by rw [eF521]; exact uF_j (by decide)).trans ((show F472 (sc) (7 : Int) = Fx (sc) (7 : Int) from hM476 _ _ ho5.1 (own_z ho5.1) (by rw [ho5.2]; rfl)).trans (show Fx (sc) (7 : Int) = F (sc) (7 : Int) from hMx _ _ o_sc (fun w => by have q1 := ho508.2; rw [w, ho505.2] at q1; exact absurd q1 (by decide)) (by rw [t_sc]; rfl)))))
                  have q627 : F534 (sc) (14 : Int) = F472 (sc) (14 : Int) := ((show F534 (sc) (14 : Int) = F521 (sc) (14 : Int) from by rw [eF534]; exact uF_j (by decide)).trans (show F521 (sc) (14 : Int) = F472 (sc) (14 : Int) from by rw [eF521]; exact uF_a (fun w => by have q1 := ho508.2; have q2 := ho520.2; rw [w, q2] at q1; exact absurd q1 (by decide))))
                  have q628 : lz (F534 (sc) (14 : Int)) = lz (F472 (sc) (14 : Int)) := by rw [q627]
                  have q629 := lz_b (F472 (sc) (14 : Int))
                  have q630 : F534 (pg) (9 : Int) = F (pg) (9 : Int) := ((show F534 (pg) (9 : Int) = F521 (pg) (9 : Int) from by rw [eF534]; exact uF_j (by decide)).trans ((show F521 (pg) (9 : Int) = F472 (pg) (9 : Int) from by rw [eF521]; exact uF_j (by decide)).trans ((show F472 (pg) (9 : Int) = Fx (pg) (9 : Int) from hM476 _ _ ho6.1 (own_z ho6.1) (by rw [ho6.2]; rfl)).trans (show Fx (pg) (9 : Int) = F (pg) (9 : Int) from hMx _ _ o_pg (fun w => by have q1 := ho509.2; rw [w, ho505.2] at q1; exact absurd q1 (by decide)) (by rw [t_pg]; rfl)))))
                  refine cx_vi (c := 8) (a := me) (st := []) (as := [.int (i32 (55))]) rfl rfl rfl ho504.1 ho504.2 (by decide) rfl ⟨rfl, rfl, (Nat.le_of_ble_eq_true rfl)⟩ rfl (k_LParser_expect (dd := d) (R := R) (m := m471) (tg := tg471) (ln := ln471) (F := F534) (me := me) (tk := 55) (hd := by omega) (hC := hC535) (o_me := ho504.1) (t_me := ho504.2) (h_tk := by omega) (sc := sc) (pg := pg) (o_sc := ho508.1) (t_sc := ho508.2) (e_sc := (((show F534 (me) (1 : Int) = F521 (me) (1 : Int) from by rw [eF534]; exact uF_j (by decide)).trans ((show F521 (me) (1 : Int) = F472 (me) (1 : Int) from by rw [eF521]; exact uF_j (by decide)).trans ((show F472 (me) (1 : Int) = Fx (me) (1 : Int) from hM476 _ _ ho3.1 (own_z ho3.1) (by rw [ho3.2]; rfl)).trans (show Fx (me) (1 : Int) = F (me) (1 : Int) from hMx _ _ o_me (fun w => by have q1 := ho504.2; rw [w, ho505.2] at q1; exact absurd q1 (by decide)) (by rw [t_me]; rfl))))).trans e_sc)) (o_pg := ho509.1) (t_pg := ho509.2) (e_pg := (((show F534 (me) (0 : Int) = F521 (me) (0 : Int) from by rw [eF534]; exact uF_j (by decide)).trans ((show F521 (me) (0 : Int) = F472 (me) (0 : Int) from by rw [eF521]; exact uF_j (by decide)).trans ((show F472 (me) (0 : Int) = Fx (me) (0 : Int) from hM476 _ _ ho3.1 (own_z ho3.1) (by rw [ho3.2]; rfl)).trans (show Fx (me) (0 : Int) = F (me) (0 : Int) from hMx _ _ o_me (fun w => by have q1 := ho504.2; rw [w, ho505.2] at q1; exact absurd q1 (by decide)) (by rw [t_me]; rfl))))).trans e_pg)) (p_0 := by omega) (p_1 := by omega) (p_2 := by omega) (p_3 := by omega) (c_NP := c537)) (fun o V_q hq => ?_)
                  obtain ⟨m631, tg631, ln631, F632, rfl, rfl, hx633, hC634, hM635, p636, p637, p638, p639, p640, p641, p642, c643, c644, -⟩ | ⟨m645, tg645, ln645, F645, x645, rfl, rfl, hx645, hC645, hM645, ho645, ht645, p646, p647, p648, p649, c650, c651, -⟩ := hq
                  rotate_left
                  ·
                    have c652 : NM m m645 tg645 := NM_t c511 hx645 c651
                    have lm653 := hx645.1
                    refine Or.inr (Or.inr (Or.inr ⟨_, _, rfl, cx_exc (c := 15) ho645 ht645 (by decide), rfl, ?_⟩))
                    have q654 : F534 (sc) (8 : Int) = F472 (sc) (8 : Int) := q622
                    have q655 : F534 (sc) (7 : Int) = F (sc) (7 : Int) := q626
                    exact Or.inr ⟨m645, tg645, ln645, F645, x645, rfl, rfl, Ex_t hX510 hx645, hC645, Fq_t (ln := ln) (ln1 := ln471) hM536 hX510 hM645 (by decide) (Or.inr (Or.inl rfl)), (And.intro ho645 ht645).1, (And.intro ho645 ht645).2, by omega, by omega, by omega, by omega, c650, c652, trivial⟩
                  have hM656 : Fq pr [(7, 15), (9, 2), (10, 0), (10, 1), (10, 2), (10, 8), (11, 8), (11, 12), (11, 13), (11, 14), (11, 15), (11, 16), (11, 17), (11, 18)] m tg F F632 := Fq_t (ln := ln) (ln1 := ln471) hM536 hX510 hM635 (by decide) (Or.inr (Or.inl rfl))
                  have lm657 := hx633.1
                  have lt658 : pr < 64 + (m471 : Int) := ho505.1.2.1
                  have lt659 : F (me) (2 : Int) < 64 + (m471 : Int) := by rcases y506 with w | w; (· omega); exact w.1.2.1
                  have lt660 : r473 < 64 + (m471 : Int) := b477.1.2.1
                  have ho661 : own m631 (me) ∧ tg631 (me) = 9 := Ex_o hx633 ⟨ho504.1, ho504.2⟩
                  have ho662 : own m631 (pr) ∧ tg631 (pr) = 7 := Ex_o hx633 ⟨ho505.1, ho505.2⟩
                  have y663 : F (me) (2 : Int) = 0 ∨ (own m631 (F (me) (2 : Int)) ∧ tg631 (F (me) (2 : Int)) = 7) := Ex_z hx633 y506
                  have ho664 : own m631 (r473) ∧ tg631 (r473) = 7 := Ex_o hx633 ⟨b477.1, b477.2⟩
                  have ho665 : own m631 (sc) ∧ tg631 (sc) = 11 := Ex_o hx633 ⟨ho508.1, ho508.2⟩
                  have ho666 : own m631 (pg) ∧ tg631 (pg) = 10 := Ex_o hx633 ⟨ho509.1, ho509.2⟩
                  have hX667 := Ex_t hX510 hx633
                  have c668 : NM m m631 tg631 := NM_t c511 hx633 c644
                  refine Or.inl ⟨rfl, ?_⟩
                  refine jx_rt (v := none) rfl rfl rfl rfl rfl rfl ?_
                  have q669 : F632 (sc) (7 : Int) = F (sc) (7 : Int) := ((show F632 (sc) (7 : Int) = F534 (sc) (7 : Int) from hM635 _ _ ho508.1 (own_z ho508.1) (by rw [ho508.2]; rfl)).trans q626)
                  have q670 : F632 (pg) (9 : Int) = F (pg) (9 : Int) := ((show F632 (pg) (9 : Int) = F534 (pg) (9 : Int) from hM635 _ _ ho509.1 (own_z ho509.1) (by rw [ho509.2]; rfl)).trans q630)
                  have q671 := tz_b (F632 (sc) (15 : Int))
                  have q672 := lz_b (F632 (sc) (14 : Int))
                  have q673 : F632 (pg) (9 : Int) = F (pg) (9 : Int) := q670
                  exact Or.inl ⟨m631, tg631, ln631, F632, rfl, rfl, hX667, hC634, hM656, by omega, by omega, by omega, by omega, by omega, by omega, by omega, c643, c668, trivial⟩
            · have _q := h519
              refine jx_ld (pc_q := 52) (l_q := L512) (st_q := [rv (pr)]) rfl (jl_rvn g514) ?_
              refine jx_ld (pc_q := 54) (l_q := L512) (st_q := [rv (r473), rv (pr)]) rfl (jl_rv g518) ?_
              refine cx_po (pc_q := 57) (c := 6) (q := 13) (qi := (13 : Int)) (z := r473) rfl rfl (by decide) (by decide) rfl rfl rfl (by decide) rfl ho505.1 ho505.2 rfl ?_
              obtain ⟨F674, eF674⟩ : ∃ q, q = uF F472 (pr) (13 : Int) (r473) := ⟨_, rfl⟩
              rw [← eF674]
              have hC675 : HC 0 m471 tg471 ln471 F674 := by rw [eF674]; exact HC_fr (c := 6) (q := 13) (by decide) hC475 ho505.2 (by decide) rfl (Or.inr ⟨b477.1, b477.2⟩) ⟨fun w => absurd w (by decide), fun w => absurd w (by decide)⟩
              have hM676 : Fq pr [(7, 15), (9, 2), (10, 0), (10, 1), (10, 2), (10, 8), (11, 8), (11, 12), (11, 13), (11, 14), (11, 15), (11, 16), (11, 17), (11, 18)] m tg F F674 := by rw [eF674]; exact Fq_x hM499 (Or.inl rfl)
              have c677 : NP m471 tg471 F674 := by rw [eF674]; exact NP_nm hC475 c487 ho505.2 (Or.inr (Or.inr (Or.inl ⟨rfl, (by rw [show F472 (pr) (13 : Int) = Fx (pr) (13 : Int) from (show F472 (pr) (13 : Int) = Fx (pr) (13 : Int) from hM476 _ _ ho4.1 (own_z ho4.1) (by rw [ho4.2]; rfl))]; omega)⟩)))
              refine jx_go (tg := 66) rfl rfl ?_
              refine jx_ld (pc_q := 68) (l_q := L512) (st_q := [rv (r473)]) rfl (jl_rv g518) ?_
              refine jx_ld (pc_q := 69) (l_q := jSto1 L512 3 (rv (r473))) (st_q := []) rfl (js_rvn (by decide)) ?_
              obtain ⟨L678, eL678⟩ : ∃ q : jL, q = jSto1 L512 3 (rv (r473)) := ⟨_, rfl⟩
              rw [← eL678]
              have g679 : jGet L678 0 = some (rv (me)) := eL678 ▸ jg_nr (by decide) g513
              have g680 : jGet L678 1 = some (rv (pr)) := eL678 ▸ jg_nr (by decide) g514
              have g681 : jGet L678 2 = some (rv (F (me) (2 : Int))) := eL678 ▸ jg_nr (by decide) g515
              have g682 : jGet L678 4 = some (.int (i32 (k))) := eL678 ▸ jg_ne (by decide) g516 rfl
              have g683 : jGet L678 5 = some (rv (r473)) := eL678 ▸ jg_nr (by decide) g518
              have g684 : jGet L678 3 = some (rv (r473)) := eL678 ▸ jg_eq
              clear eL678
              refine jx_ld (pc_q := 70) (l_q := L678) (st_q := [rv (pr)]) rfl (jl_rvn g680) ?_
              refine jx_ar (pc_q := 71) (st_q := [rv (pr), rv (pr)]) rfl rfl ja_dup rfl ?_
              refine cx_gi (pc_q := 74) (c := 6) (q := 8) (v := Fx (pr) (8 : Int)) rfl rfl (by decide) (by decide) (Or.inl rfl) rfl ho505.1 ho505.2 ((show F674 (pr) (8 : Int) = F472 (pr) (8 : Int) from by rw [eF674]; exact uF_j (by decide)).trans (show F472 (pr) (8 : Int) = Fx (pr) (8 : Int) from hM476 _ _ ho4.1 (own_z ho4.1) (by rw [ho4.2]; rfl))) ?_
              have b685 : (-2147483648 : Int) ≤ Fx (pr) (8 : Int) ∧ Fx (pr) (8 : Int) ≤ 2147483647 := by have z := HC_i (c := 6) (q := 8) hC675 ho505.1 ho505.2 (by decide) rfl; rw [show F674 (pr) ((8 : Nat) : Int) = Fx (pr) (8 : Int) from ((show F674 (pr) (8 : Int) = F472 (pr) (8 : Int) from by rw [eF674]; exact uF_j (by decide)).trans (show F472 (pr) (8 : Int) = Fx (pr) (8 : Int) from hM476 _ _ ho4.1 (own_z ho4.1) (by rw [ho4.2]; rfl)))] at z; exact z
              refine jx_ar (pc_q := 75) (st_q := [.int (i32 (1)), .int (i32 (Fx (pr) (8 : Int))), rv (pr)]) rfl rfl rfl rfl ?_
              refine jx_add (pc_q := 76) rfl rfl ?_
              obtain ⟨z686, ez686⟩ : ∃ q, q = (i32 ((Fx (pr) (8 : Int) + 1))).toInt := ⟨_, rfl⟩
              have bz686 : (-2147483648 : Int) ≤ z686 ∧ z686 ≤ 2147483647 := ez686 ▸ i32_rg _
              rw [show i32 ((Fx (pr) (8 : Int) + 1)) = i32 z686 by rw [ez686, i32_of]]
              clear ez686
              refine cx_pi (pc_q := 79) (c := 6) (q := 8) (qi := (8 : Int)) (z := z686) rfl rfl (by decide) (by decide) rfl rfl rfl (by decide) rfl ho505.1 ho505.2 rfl ?_
              obtain ⟨F687, eF687⟩ : ∃ q, q = uF F674 (pr) (8 : Int) (z686) := ⟨_, rfl⟩
              rw [← eF687]
              have hC688 : HC 0 m471 tg471 ln471 F687 := by rw [eF687]; exact HC_fi (c := 6) (q := 8) hC675 ho505.2 (by decide) rfl (by omega) (by omega) ⟨fun w => absurd w (by decide), fun w => absurd w (by decide)⟩
              have hM689 : Fq pr [(7, 15), (9, 2), (10, 0), (10, 1), (10, 2), (10, 8), (11, 8), (11, 12), (11, 13), (11, 14), (11, 15), (11, 16), (11, 17), (11, 18)] m tg F F687 := by rw [eF687]; exact Fq_x hM676 (Or.inl rfl)
              have c690 : NP m471 tg471 F687 := by rw [eF687]; exact NP_u hC675 c677 ho505.2 (by omega)
              refine jx_ld (pc_q := 80) (l_q := L678) (st_q := [rv (me)]) rfl (jl_rvn g679) ?_
              refine cx_gr (pc_q := 83) (c := 8) (q := 1) (v := sc) rfl rfl (by decide) (by decide) rfl rfl ho504.1 ho504.2 (((show F687 (me) (1 : Int) = F674 (me) (1 : Int) from by rw [eF687]; exact uF_j (by decide)).trans ((show F674 (me) (1 : Int) = F472 (me) (1 : Int) from by rw [eF674]; exact uF_j (by decide)).trans ((show F472 (me) (1 : Int) = Fx (me) (1 : Int) from hM476 _ _ ho3.1 (own_z ho3.1) (by rw [ho3.2]; rfl)).trans (show Fx (me) (1 : Int) = F (me) (1 : Int) from hMx _ _ o_me (fun w => by have q1 := ho504.2; rw [w, ho505.2] at q1; exact absurd q1 (by decide)) (by rw [t_me]; rfl))))).trans e_sc) ?_
              refine cx_gi (pc_q := 86) (c := 10) (q := 15) (v := F472 (sc) (15 : Int)) rfl rfl (by decide) (by decide) (Or.inl rfl) rfl ho508.1 ho508.2 ((show F687 (sc) (15 : Int) = F674 (sc) (15 : Int) from by rw [eF687]; exact uF_j (by decide)).trans (show F674 (sc) (15 : Int) = F472 (sc) (15 : Int) from by rw [eF674]; exact uF_j (by decide))) ?_
              have b691 : (-2147483648 : Int) ≤ F472 (sc) (15 : Int) ∧ F472 (sc) (15 : Int) ≤ 2147483647 := by have z := HC_i (c := 10) (q := 15) hC688 ho508.1 ho508.2 (by decide) rfl; rw [show F687 (sc) ((15 : Nat) : Int) = F472 (sc) (15 : Int) from ((show F687 (sc) (15 : Int) = F674 (sc) (15 : Int) from by rw [eF687]; exact uF_j (by decide)).trans (show F674 (sc) (15 : Int) = F472 (sc) (15 : Int) from by rw [eF674]; exact uF_j (by decide)))] at z; exact z
              refine jx_ar (pc_q := 88) (st_q := [.int (i32 (52)), .int (i32 (F472 (sc) (15 : Int)))]) rfl rfl rfl rfl ?_
              refine jx_icmp_ne (pc_q := 91) (tg := 116) rfl rfl rfl (by omega) (by omega) (by decide) (by decide) (fun h692 => ?_) (fun h692 => ?_)
              · have _q := h692
                refine jx_ld (pc_q := 117) (l_q := L678) (st_q := [rv (me)]) rfl (jl_rvn g679) ?_
                refine jx_ar (pc_q := 119) (st_q := [.int (i32 (55)), rv (me)]) rfl rfl rfl rfl ?_
                have q693 : F687 (sc) (8 : Int) = F472 (sc) (8 : Int) := ((show F687 (sc) (8 : Int) = F674 (sc) (8 : Int) from by rw [eF687]; exact uF_a (fun w => by have q1 := ho508.2; have q2 := ho505.2; rw [w, q2] at q1; exact absurd q1 (by decide))).trans (show F674 (sc) (8 : Int) = F472 (sc) (8 : Int) from by rw [eF674]; exact uF_j (by decide)))
                have q694 : F687 (sc) (15 : Int) = F472 (sc) (15 : Int) := ((show F687 (sc) (15 : Int) = F674 (sc) (15 : Int) from by rw [eF687]; exact uF_j (by decide)).trans (show F674 (sc) (15 : Int) = F472 (sc) (15 : Int) from by rw [eF674]; exact uF_j (by decide)))
                have q695 : tz (F687 (sc) (15 : Int)) = tz (F472 (sc) (15 : Int)) := by rw [q694]
                have q696 := tz_b (F472 (sc) (15 : Int))
                have q697 : F687 (sc) (7 : Int) = F (sc) (7 : Int) := ((show F687 (sc) (7 : Int) = F674 (sc) (7 : Int) from by rw [eF687]; exact uF_j (by decide)).trans ((show F674 (sc) (7 : Int) = F472 (sc) (7 : Int) from by rw [eF674]; exact uF_j (by decide)).trans ((show F472 (sc) (7 : Int) = Fx (sc) (7 : Int) from hM476 _ _ ho5.1 (own_z ho5.1) (by rw [ho5.2]; rfl)).trans (show Fx (sc) (7 : Int) = F (sc) (7 : Int) from hMx _ _ o_sc (fun w => by have q1 := ho508.2; rw [w, ho505.2] at q1; exact absurd q1 (by decide)) (by rw [t_sc]; rfl)))))
                have q698 : F687 (sc) (14 : Int) = F472 (sc) (14 : Int) := ((show F687 (sc) (14 : Int) = F674 (sc) (14 : Int) from by rw [eF687]; exact uF_j (by decide)).trans (show F674 (sc) (14 : Int) = F472 (sc) (14 : Int) from by rw [eF674]; exact uF_j (by decide)))
                have q699 : lz (F687 (sc) (14 : Int)) = lz (F472 (sc) (14 : Int)) := by rw [q698]
                have q700 := lz_b (F472 (sc) (14 : Int))
                have q701 : F687 (pg) (9 : Int) = F (pg) (9 : Int) := ((show F687 (pg) (9 : Int) = F674 (pg) (9 : Int) from by rw [eF687]; exact uF_j (by decide)).trans ((show F674 (pg) (9 : Int) = F472 (pg) (9 : Int) from by rw [eF674]; exact uF_j (by decide)).trans ((show F472 (pg) (9 : Int) = Fx (pg) (9 : Int) from hM476 _ _ ho6.1 (own_z ho6.1) (by rw [ho6.2]; rfl)).trans (show Fx (pg) (9 : Int) = F (pg) (9 : Int) from hMx _ _ o_pg (fun w => by have q1 := ho509.2; rw [w, ho505.2] at q1; exact absurd q1 (by decide)) (by rw [t_pg]; rfl)))))
                refine cx_vi (c := 8) (a := me) (st := []) (as := [.int (i32 (55))]) rfl rfl rfl ho504.1 ho504.2 (by decide) rfl ⟨rfl, rfl, (Nat.le_of_ble_eq_true rfl)⟩ rfl (k_LParser_expect (dd := d) (R := R) (m := m471) (tg := tg471) (ln := ln471) (F := F687) (me := me) (tk := 55) (hd := by omega) (hC := hC688) (o_me := ho504.1) (t_me := ho504.2) (h_tk := by omega) (sc := sc) (pg := pg) (o_sc := ho508.1) (t_sc := ho508.2) (e_sc := (((show F687 (me) (1 : Int) = F674 (me) (1 : Int) from by rw [eF687]; exact uF_j (by decide)).trans ((show F674 (me) (1 : Int) = F472 (me) (1 : Int) from by rw [eF674]; exact uF_j (by decide)).trans ((show F472 (me) (1 : Int) = Fx (me) (1 : Int) from hM476 _ _ ho3.1 (own_z ho3.1) (by rw [ho3.2]; rfl)).trans (show Fx (me) (1 : Int) = F (me) (1 : Int) from hMx _ _ o_me (fun w => by have q1 := ho504.2; rw [w, ho505.2] at q1; exact absurd q1 (by decide)) (by rw [t_me]; rfl))))).trans e_sc)) (o_pg := ho509.1) (t_pg := ho509.2) (e_pg := (((show F687 (me) (0 : Int) = F674 (me) (0 : Int) from by rw [eF687]; exact uF_j (by decide)).trans ((show F674 (me) (0 : Int) = F472 (me) (0 : Int) from by rw [eF674]; exact uF_j (by decide)).trans ((show F472 (me) (0 : Int) = Fx (me) (0 : Int) from hM476 _ _ ho3.1 (own_z ho3.1) (by rw [ho3.2]; rfl)).trans (show Fx (me) (0 : Int) = F (me) (0 : Int) from hMx _ _ o_me (fun w => by have q1 := ho504.2; rw [w, ho505.2] at q1; exact absurd q1 (by decide)) (by rw [t_me]; rfl))))).trans e_pg)) (p_0 := by omega) (p_1 := by omega) (p_2 := by omega) (p_3 := by omega) (c_NP := c690)) (fun o V_q hq => ?_)
                obtain ⟨m702, tg702, ln702, F703, rfl, rfl, hx704, hC705, hM706, p707, p708, p709, p710, p711, p712, p713, c714, c715, -⟩ | ⟨m716, tg716, ln716, F716, x716, rfl, rfl, hx716, hC716, hM716, ho716, ht716, p717, p718, p719, p720, c721, c722, -⟩ := hq
                rotate_left
                ·
                  have c723 : NM m m716 tg716 := NM_t c511 hx716 c722
                  have lm724 := hx716.1
                  refine Or.inr (Or.inr (Or.inr ⟨_, _, rfl, cx_exc (c := 15) ho716 ht716 (by decide), rfl, ?_⟩))
                  have q725 : F687 (sc) (8 : Int) = F472 (sc) (8 : Int) := q693
                  have q726 : F687 (sc) (7 : Int) = F (sc) (7 : Int) := q697
                  exact Or.inr ⟨m716, tg716, ln716, F716, x716, rfl, rfl, Ex_t hX510 hx716, hC716, Fq_t (ln := ln) (ln1 := ln471) hM689 hX510 hM716 (by decide) (Or.inr (Or.inl rfl)), (And.intro ho716 ht716).1, (And.intro ho716 ht716).2, by omega, by omega, by omega, by omega, c721, c723, trivial⟩
                have hM727 : Fq pr [(7, 15), (9, 2), (10, 0), (10, 1), (10, 2), (10, 8), (11, 8), (11, 12), (11, 13), (11, 14), (11, 15), (11, 16), (11, 17), (11, 18)] m tg F F703 := Fq_t (ln := ln) (ln1 := ln471) hM689 hX510 hM706 (by decide) (Or.inr (Or.inl rfl))
                have lm728 := hx704.1
                have lt729 : pr < 64 + (m471 : Int) := ho505.1.2.1
                have lt730 : F (me) (2 : Int) < 64 + (m471 : Int) := by rcases y506 with w | w; (· omega); exact w.1.2.1
                have lt731 : r473 < 64 + (m471 : Int) := b477.1.2.1
                have ho732 : own m702 (me) ∧ tg702 (me) = 9 := Ex_o hx704 ⟨ho504.1, ho504.2⟩
                have ho733 : own m702 (pr) ∧ tg702 (pr) = 7 := Ex_o hx704 ⟨ho505.1, ho505.2⟩
                have y734 : F (me) (2 : Int) = 0 ∨ (own m702 (F (me) (2 : Int)) ∧ tg702 (F (me) (2 : Int)) = 7) := Ex_z hx704 y506
                have ho735 : own m702 (r473) ∧ tg702 (r473) = 7 := Ex_o hx704 ⟨b477.1, b477.2⟩
                have ho736 : own m702 (sc) ∧ tg702 (sc) = 11 := Ex_o hx704 ⟨ho508.1, ho508.2⟩
                have ho737 : own m702 (pg) ∧ tg702 (pg) = 10 := Ex_o hx704 ⟨ho509.1, ho509.2⟩
                have hX738 := Ex_t hX510 hx704
                have c739 : NM m m702 tg702 := NM_t c511 hx704 c715
                refine Or.inl ⟨rfl, ?_⟩
                refine jx_rt (v := none) rfl rfl rfl rfl rfl rfl ?_
                have q740 : F703 (sc) (7 : Int) = F (sc) (7 : Int) := ((show F703 (sc) (7 : Int) = F687 (sc) (7 : Int) from hM706 _ _ ho508.1 (own_z ho508.1) (by rw [ho508.2]; rfl)).trans q697)
                have q741 : F703 (pg) (9 : Int) = F (pg) (9 : Int) := ((show F703 (pg) (9 : Int) = F687 (pg) (9 : Int) from hM706 _ _ ho509.1 (own_z ho509.1) (by rw [ho509.2]; rfl)).trans q701)
                have q742 := tz_b (F703 (sc) (15 : Int))
                have q743 := lz_b (F703 (sc) (14 : Int))
                have q744 : F703 (pg) (9 : Int) = F (pg) (9 : Int) := q741
                exact Or.inl ⟨m702, tg702, ln702, F703, rfl, rfl, hX738, hC705, hM727, by omega, by omega, by omega, by omega, by omega, by omega, by omega, c714, c739, trivial⟩
              · have _q := h692
                have t745 : tz (F472 (sc) (15 : Int)) = 1 := tz_p (by omega)
                refine jx_ld (pc_q := 92) (l_q := L678) (st_q := [rv (pr)]) rfl (jl_rvn g680) ?_
                refine cx_gi (pc_q := 95) (c := 6) (q := 8) (v := z686) rfl rfl (by decide) (by decide) (Or.inl rfl) rfl ho505.1 ho505.2 (show F687 (pr) (8 : Int) = z686 from by rw [eF687]; exact uF_e) ?_
                refine jx_ar (pc_q := 97) (st_q := [.int (i32 (6)), .int (i32 (z686))]) rfl rfl rfl rfl ?_
                refine jx_icmp_ne (pc_q := 100) (tg := 103) rfl rfl rfl (by omega) (by omega) (by decide) (by decide) (fun h746 => ?_) (fun h746 => ?_)
                · have _q := h746
                  refine jx_ld (pc_q := 104) (l_q := L678) (st_q := [rv (me)]) rfl (jl_rvn g679) ?_
                  refine cx_gr (pc_q := 107) (c := 8) (q := 1) (v := sc) rfl rfl (by decide) (by decide) rfl rfl ho504.1 ho504.2 (((show F687 (me) (1 : Int) = F674 (me) (1 : Int) from by rw [eF687]; exact uF_j (by decide)).trans ((show F674 (me) (1 : Int) = F472 (me) (1 : Int) from by rw [eF674]; exact uF_j (by decide)).trans ((show F472 (me) (1 : Int) = Fx (me) (1 : Int) from hM476 _ _ ho3.1 (own_z ho3.1) (by rw [ho3.2]; rfl)).trans (show Fx (me) (1 : Int) = F (me) (1 : Int) from hMx _ _ o_me (fun w => by have q1 := ho504.2; rw [w, ho505.2] at q1; exact absurd q1 (by decide)) (by rw [t_me]; rfl))))).trans e_sc) ?_
                  have q747 : F687 (sc) (8 : Int) = F472 (sc) (8 : Int) := ((show F687 (sc) (8 : Int) = F674 (sc) (8 : Int) from by rw [eF687]; exact uF_a (fun w => by have q1 := ho508.2; have q2 := ho505.2; rw [w, q2] at q1; exact absurd q1 (by decide))).trans (show F674 (sc) (8 : Int) = F472 (sc) (8 : Int) from by rw [eF674]; exact uF_j (by decide)))
                  have q748 : F687 (sc) (15 : Int) = F472 (sc) (15 : Int) := ((show F687 (sc) (15 : Int) = F674 (sc) (15 : Int) from by rw [eF687]; exact uF_j (by decide)).trans (show F674 (sc) (15 : Int) = F472 (sc) (15 : Int) from by rw [eF674]; exact uF_j (by decide)))
                  have q749 : tz (F687 (sc) (15 : Int)) = tz (F472 (sc) (15 : Int)) := by rw [q748]
                  have q750 := tz_b (F472 (sc) (15 : Int))
                  have q751 : F687 (sc) (7 : Int) = F (sc) (7 : Int) := ((show F687 (sc) (7 : Int) = F674 (sc) (7 : Int) from by rw [eF687]; exact uF_j (by decide)).trans ((show F674 (sc) (7 : Int) = F472 (sc) (7 : Int) from by rw [eF674]; exact uF_j (by decide)).trans ((show F472 (sc) (7 : Int) = Fx (sc) (7 : Int) from hM476 _ _ ho5.1 (own_z ho5.1) (by rw [ho5.2]; rfl)).trans (show Fx (sc) (7 : Int) = F (sc) (7 : Int) from hMx _ _ o_sc (fun w => by have q1 := ho508.2; rw [w, ho505.2] at q1; exact absurd q1 (by decide)) (by rw [t_sc]; rfl)))))
                  have q752 : F687 (sc) (14 : Int) = F472 (sc) (14 : Int) := ((show F687 (sc) (14 : Int) = F674 (sc) (14 : Int) from by rw [eF687]; exact uF_j (by decide)).trans (show F674 (sc) (14 : Int) = F472 (sc) (14 : Int) from by rw [eF674]; exact uF_j (by decide)))
                  have q753 : lz (F687 (sc) (14 : Int)) = lz (F472 (sc) (14 : Int)) := by rw [q752]
                  have q754 := lz_b (F472 (sc) (14 : Int))
                  refine cx_vi (c := 10) (a := sc) (st := []) (as := []) rfl rfl rfl ho508.1 ho508.2 (by decide) rfl ⟨rfl, rfl, (Nat.le_of_ble_eq_true rfl)⟩ rfl (k_LScanner_next (dd := d) (R := R) (m := m471) (tg := tg471) (ln := ln471) (F := F687) (me := sc) (hd := by omega) (hC := hC688) (o_me := ho508.1) (t_me := ho508.2) (p_0 := by omega) (p_1 := by omega)) (fun o V_q hq => ?_)
                  obtain ⟨F755, rfl, rfl, hC756, hM757, p758, p759, p760, -⟩ := hq
                  have hM761 : Fq pr [(7, 15), (9, 2), (10, 0), (10, 1), (10, 2), (10, 8), (11, 8), (11, 12), (11, 13), (11, 14), (11, 15), (11, 16), (11, 17), (11, 18)] m tg F F755 := Fq_t (ln := ln) (ln1 := ln471) hM689 hX510 hM757 (by decide) (Or.inr (Or.inl rfl))
                  have c762 : NP m471 tg471 F755 := NP_q hC688 c690 hM757 rfl rfl
                  refine Or.inl ⟨rfl, ?_⟩
                  refine jx_inc (pc_q := 113) (l_q := jSto1 L678 4 (.int (i32 (k + (1))))) (x := k) rfl g682 (by decide) rfl rfl ?_
                  obtain ⟨L763, eL763⟩ : ∃ q : jL, q = jSto1 L678 4 (.int (i32 ((k + (1))))) := ⟨_, rfl⟩
                  rw [← eL763]
                  have g764 : jGet L763 0 = some (rv (me)) := eL763 ▸ jg_nr (by decide) g679
                  have g765 : jGet L763 1 = some (rv (pr)) := eL763 ▸ jg_nr (by decide) g680
                  have g766 : jGet L763 2 = some (rv (F (me) (2 : Int))) := eL763 ▸ jg_nr (by decide) g681
                  have g767 : jGet L763 5 = some (rv (r473)) := eL763 ▸ jg_nr (by decide) g683
                  have g768 : jGet L763 3 = some (rv (r473)) := eL763 ▸ jg_nr (by decide) g684
                  have g769 : jGet L763 4 = some (.int (i32 ((k + (1))))) := eL763 ▸ jg_eq
                  clear eL763
                  refine jx_go (tg := 16) rfl rfl ?_
                  have q770 := tz_b (F755 (sc) (15 : Int))
                  have q771 := lz_b (F755 (sc) (14 : Int))
                  have q772 : F755 (pg) (9 : Int) = F (pg) (9 : Int) := ((show F755 (pg) (9 : Int) = F687 (pg) (9 : Int) from hM757 _ _ ho509.1 (own_z ho509.1) (by rw [ho509.2]; rfl)).trans ((show F687 (pg) (9 : Int) = F674 (pg) (9 : Int) from by rw [eF687]; exact uF_j (by decide)).trans ((show F674 (pg) (9 : Int) = F472 (pg) (9 : Int) from by rw [eF674]; exact uF_j (by decide)).trans ((show F472 (pg) (9 : Int) = Fx (pg) (9 : Int) from hM476 _ _ ho6.1 (own_z ho6.1) (by rw [ho6.2]; rfl)).trans (show Fx (pg) (9 : Int) = F (pg) (9 : Int) from hMx _ _ o_pg (fun w => by have q1 := ho509.2; rw [w, ho505.2] at q1; exact absurd q1 (by decide)) (by rw [t_pg]; rfl))))))
                  have q773 : F755 (pr) (13 : Int) = r473 := ((show F755 (pr) (13 : Int) = F687 (pr) (13 : Int) from hM757 _ _ ho505.1 (own_z ho505.1) (by rw [ho505.2]; rfl)).trans ((show F687 (pr) (13 : Int) = F674 (pr) (13 : Int) from by rw [eF687]; exact uF_j (by decide)).trans (show F674 (pr) (13 : Int) = r473 from by rw [eF674]; exact uF_e)))
                  have q774 : F755 (r473) (14 : Int) = F472 (r473) (14 : Int) := ((show F755 (r473) (14 : Int) = F687 (r473) (14 : Int) from hM757 _ _ b477.1 (own_z b477.1) (by rw [b477.2]; rfl)).trans ((show F687 (r473) (14 : Int) = F674 (r473) (14 : Int) from by rw [eF687]; exact uF_j (by decide)).trans (show F674 (r473) (14 : Int) = F472 (r473) (14 : Int) from by rw [eF674]; exact uF_j (by decide))))
                  exact ih _ (by omega) L763 m471 tg471 ln471 F755 ((k + (1))) (r473) rfl g764 g765 g766 g769 g768 hX510 hC756 hM761 (by omega) (Or.inr ⟨b477.1, b477.2⟩) (by omega) (by omega) (by omega) (by omega) (by omega) (by omega) (by omega) (by omega) (by omega) (by omega) c762 c511
                · have _q := h746
                  refine jx_go (tg := 116) rfl rfl ?_
                  refine jx_ld (pc_q := 117) (l_q := L678) (st_q := [rv (me)]) rfl (jl_rvn g679) ?_
                  refine jx_ar (pc_q := 119) (st_q := [.int (i32 (55)), rv (me)]) rfl rfl rfl rfl ?_
                  have q775 : F687 (sc) (8 : Int) = F472 (sc) (8 : Int) := ((show F687 (sc) (8 : Int) = F674 (sc) (8 : Int) from by rw [eF687]; exact uF_a (fun w => by have q1 := ho508.2; have q2 := ho505.2; rw [w, q2] at q1; exact absurd q1 (by decide))).trans (show F674 (sc) (8 : Int) = F472 (sc) (8 : Int) from by rw [eF674]; exact uF_j (by decide)))
                  have q776 : F687 (sc) (15 : Int) = F472 (sc) (15 : Int) := ((show F687 (sc) (15 : Int) = F674 (sc) (15 : Int) from by rw [eF687]; exact uF_j (by decide)).trans (show F674 (sc) (15 : Int) = F472 (sc) (15 : Int) from by rw [eF674]; exact uF_j (by decide)))
                  have q777 : tz (F687 (sc) (15 : Int)) = tz (F472 (sc) (15 : Int)) := by rw [q776]
                  have q778 := tz_b (F472 (sc) (15 : Int))
                  have q779 : F687 (sc) (7 : Int) = F (sc) (7 : Int) := ((show F687 (sc) (7 : Int) = F674 (sc) (7 : Int) from by rw [eF687]; exact uF_j (by decide)).trans ((show F674 (sc) (7 : Int) = F472 (sc) (7 : Int) from by rw [eF674]; exact uF_j (by decide)).trans ((show F472 (sc) (7 : Int) = Fx (sc) (7 : Int) from hM476 _ _ ho5.1 (own_z ho5.1) (by rw [ho5.2]; rfl)).trans (show Fx (sc) (7 : Int) = F (sc) (7 : Int) from hMx _ _ o_sc (fun w => by have q1 := ho508.2; rw [w, ho505.2] at q1; exact absurd q1 (by decide)) (by rw [t_sc]; rfl)))))
                  have q780 : F687 (sc) (14 : Int) = F472 (sc) (14 : Int) := ((show F687 (sc) (14 : Int) = F674 (sc) (14 : Int) from by rw [eF687]; exact uF_j (by decide)).trans (show F674 (sc) (14 : Int) = F472 (sc) (14 : Int) from by rw [eF674]; exact uF_j (by decide)))
                  have q781 : lz (F687 (sc) (14 : Int)) = lz (F472 (sc) (14 : Int)) := by rw [q780]
                  have q782 := lz_b (F472 (sc) (14 : Int))
                  have q783 : F687 (pg) (9 : Int) = F (pg) (9 : Int) := ((show F687 (pg) (9 : Int) = F674 (pg) (9 : Int) from by rw [eF687]; exact uF_j (by decide)).trans ((show F674 (pg) (9 : Int) = F472 (pg) (9 : Int) from by rw [eF674]; exact uF_j (by decide)).trans ((show F472 (pg) (9 : Int) = Fx (pg) (9 : Int) from hM476 _ _ ho6.1 (own_z ho6.1) (by rw [ho6.2]; rfl)).trans (show Fx (pg) (9 : Int) = F (pg) (9 : Int) from hMx _ _ o_pg (fun w => by have q1 := ho509.2; rw [w, ho505.2] at q1; exact absurd q1 (by decide)) (by rw [t_pg]; rfl)))))
                  refine cx_vi (c := 8) (a := me) (st := []) (as := [.int (i32 (55))]) rfl rfl rfl ho504.1 ho504.2 (by decide) rfl ⟨rfl, rfl, (Nat.le_of_ble_eq_true rfl)⟩ rfl (k_LParser_expect (dd := d) (R := R) (m := m471) (tg := tg471) (ln := ln471) (F := F687) (me := me) (tk := 55) (hd := by omega) (hC := hC688) (o_me := ho504.1) (t_me := ho504.2) (h_tk := by omega) (sc := sc) (pg := pg) (o_sc := ho508.1) (t_sc := ho508.2) (e_sc := (((show F687 (me) (1 : Int) = F674 (me) (1 : Int) from by rw [eF687]; exact uF_j (by decide)).trans ((show F674 (me) (1 : Int) = F472 (me) (1 : Int) from by rw [eF674]; exact uF_j (by decide)).trans ((show F472 (me) (1 : Int) = Fx (me) (1 : Int) from hM476 _ _ ho3.1 (own_z ho3.1) (by rw [ho3.2]; rfl)).trans (show Fx (me) (1 : Int) = F (me) (1 : Int) from hMx _ _ o_me (fun w => by have q1 := ho504.2; rw [w, ho505.2] at q1; exact absurd q1 (by decide)) (by rw [t_me]; rfl))))).trans e_sc)) (o_pg := ho509.1) (t_pg := ho509.2) (e_pg := (((show F687 (me) (0 : Int) = F674 (me) (0 : Int) from by rw [eF687]; exact uF_j (by decide)).trans ((show F674 (me) (0 : Int) = F472 (me) (0 : Int) from by rw [eF674]; exact uF_j (by decide)).trans ((show F472 (me) (0 : Int) = Fx (me) (0 : Int) from hM476 _ _ ho3.1 (own_z ho3.1) (by rw [ho3.2]; rfl)).trans (show Fx (me) (0 : Int) = F (me) (0 : Int) from hMx _ _ o_me (fun w => by have q1 := ho504.2; rw [w, ho505.2] at q1; exact absurd q1 (by decide)) (by rw [t_me]; rfl))))).trans e_pg)) (p_0 := by omega) (p_1 := by omega) (p_2 := by omega) (p_3 := by omega) (c_NP := c690)) (fun o V_q hq => ?_)
                  obtain ⟨m784, tg784, ln784, F785, rfl, rfl, hx786, hC787, hM788, p789, p790, p791, p792, p793, p794, p795, c796, c797, -⟩ | ⟨m798, tg798, ln798, F798, x798, rfl, rfl, hx798, hC798, hM798, ho798, ht798, p799, p800, p801, p802, c803, c804, -⟩ := hq
                  rotate_left
                  ·
                    have c805 : NM m m798 tg798 := NM_t c511 hx798 c804
                    have lm806 := hx798.1
                    refine Or.inr (Or.inr (Or.inr ⟨_, _, rfl, cx_exc (c := 15) ho798 ht798 (by decide), rfl, ?_⟩))
                    have q807 : F687 (sc) (8 : Int) = F472 (sc) (8 : Int) := q775
                    have q808 : F687 (sc) (7 : Int) = F (sc) (7 : Int) := q779
                    exact Or.inr ⟨m798, tg798, ln798, F798, x798, rfl, rfl, Ex_t hX510 hx798, hC798, Fq_t (ln := ln) (ln1 := ln471) hM689 hX510 hM798 (by decide) (Or.inr (Or.inl rfl)), (And.intro ho798 ht798).1, (And.intro ho798 ht798).2, by omega, by omega, by omega, by omega, c803, c805, trivial⟩
                  have hM809 : Fq pr [(7, 15), (9, 2), (10, 0), (10, 1), (10, 2), (10, 8), (11, 8), (11, 12), (11, 13), (11, 14), (11, 15), (11, 16), (11, 17), (11, 18)] m tg F F785 := Fq_t (ln := ln) (ln1 := ln471) hM689 hX510 hM788 (by decide) (Or.inr (Or.inl rfl))
                  have lm810 := hx786.1
                  have lt811 : pr < 64 + (m471 : Int) := ho505.1.2.1
                  have lt812 : F (me) (2 : Int) < 64 + (m471 : Int) := by rcases y506 with w | w; (· omega); exact w.1.2.1
                  have lt813 : r473 < 64 + (m471 : Int) := b477.1.2.1
                  have ho814 : own m784 (me) ∧ tg784 (me) = 9 := Ex_o hx786 ⟨ho504.1, ho504.2⟩
                  have ho815 : own m784 (pr) ∧ tg784 (pr) = 7 := Ex_o hx786 ⟨ho505.1, ho505.2⟩
                  have y816 : F (me) (2 : Int) = 0 ∨ (own m784 (F (me) (2 : Int)) ∧ tg784 (F (me) (2 : Int)) = 7) := Ex_z hx786 y506
                  have ho817 : own m784 (r473) ∧ tg784 (r473) = 7 := Ex_o hx786 ⟨b477.1, b477.2⟩
                  have ho818 : own m784 (sc) ∧ tg784 (sc) = 11 := Ex_o hx786 ⟨ho508.1, ho508.2⟩
                  have ho819 : own m784 (pg) ∧ tg784 (pg) = 10 := Ex_o hx786 ⟨ho509.1, ho509.2⟩
                  have hX820 := Ex_t hX510 hx786
                  have c821 : NM m m784 tg784 := NM_t c511 hx786 c797
                  refine Or.inl ⟨rfl, ?_⟩
                  refine jx_rt (v := none) rfl rfl rfl rfl rfl rfl ?_
                  have q822 : F785 (sc) (7 : Int) = F (sc) (7 : Int) := ((show F785 (sc) (7 : Int) = F687 (sc) (7 : Int) from hM788 _ _ ho508.1 (own_z ho508.1) (by rw [ho508.2]; rfl)).trans q779)
                  have q823 : F785 (pg) (9 : Int) = F (pg) (9 : Int) := ((show F785 (pg) (9 : Int) = F687 (pg) (9 : Int) from hM788 _ _ ho509.1 (own_z ho509.1) (by rw [ho509.2]; rfl)).trans q783)
                  have q824 := tz_b (F785 (sc) (15 : Int))
                  have q825 := lz_b (F785 (sc) (14 : Int))
                  have q826 : F785 (pg) (9 : Int) = F (pg) (9 : Int) := q823
                  exact Or.inl ⟨m784, tg784, ln784, F785, rfl, rfl, hX820, hC787, hM809, by omega, by omega, by omega, by omega, by omega, by omega, by omega, c796, c821, trivial⟩
    · have _q := h9
      have ho827 : own mx (la) ∧ tgx (la) = 7 := yx_la.resolve_left h9
      refine jx_ld (pc_q := 18) (l_q := L) (st_q := [.int (i32 (k))]) rfl (jl_iload gL_4) ?_
      refine jx_ar (pc_q := 20) (st_q := [.int (i32 (6)), .int (i32 (k))]) rfl rfl rfl rfl ?_
      refine jx_icmp_ge (pc_q := 23) (tg := 116) rfl rfl rfl (by omega) (by omega) (by decide) (by decide) (fun h828 => ?_) (fun h828 => ?_)
      · have _q := h828
        refine jx_ld (pc_q := 117) (l_q := L) (st_q := [rv (me)]) rfl (jl_rvn gL_0) ?_
        refine jx_ar (pc_q := 119) (st_q := [.int (i32 (55)), rv (me)]) rfl rfl rfl rfl ?_
        have q829 := tz_b (Fx (sc) (15 : Int))
        have q830 : Fx (sc) (7 : Int) = F (sc) (7 : Int) := (show Fx (sc) (7 : Int) = F (sc) (7 : Int) from hMx _ _ o_sc (fun w => by have q1 := ho5.2; rw [w, ho4.2] at q1; exact absurd q1 (by decide)) (by rw [t_sc]; rfl))
        have q831 := lz_b (Fx (sc) (14 : Int))
        have q832 : Fx (pg) (9 : Int) = F (pg) (9 : Int) := (show Fx (pg) (9 : Int) = F (pg) (9 : Int) from hMx _ _ o_pg (fun w => by have q1 := ho6.2; rw [w, ho4.2] at q1; exact absurd q1 (by decide)) (by rw [t_pg]; rfl))
        refine cx_vi (c := 8) (a := me) (st := []) (as := [.int (i32 (55))]) rfl rfl rfl ho3.1 ho3.2 (by decide) rfl ⟨rfl, rfl, (Nat.le_of_ble_eq_true rfl)⟩ rfl (k_LParser_expect (dd := d) (R := R) (m := mx) (tg := tgx) (ln := lnx) (F := Fx) (me := me) (tk := 55) (hd := by omega) (hC := hCx) (o_me := ho3.1) (t_me := ho3.2) (h_tk := by omega) (sc := sc) (pg := pg) (o_sc := ho5.1) (t_sc := ho5.2) (e_sc := ((show Fx (me) (1 : Int) = F (me) (1 : Int) from hMx _ _ o_me (fun w => by have q1 := ho3.2; rw [w, ho4.2] at q1; exact absurd q1 (by decide)) (by rw [t_me]; rfl)).trans e_sc)) (o_pg := ho6.1) (t_pg := ho6.2) (e_pg := ((show Fx (me) (0 : Int) = F (me) (0 : Int) from hMx _ _ o_me (fun w => by have q1 := ho3.2; rw [w, ho4.2] at q1; exact absurd q1 (by decide)) (by rw [t_me]; rfl)).trans e_pg)) (p_0 := by omega) (p_1 := by omega) (p_2 := by omega) (p_3 := by omega) (c_NP := cx_NP)) (fun o V_q hq => ?_)
        obtain ⟨m833, tg833, ln833, F834, rfl, rfl, hx835, hC836, hM837, p838, p839, p840, p841, p842, p843, p844, c845, c846, -⟩ | ⟨m847, tg847, ln847, F847, x847, rfl, rfl, hx847, hC847, hM847, ho847, ht847, p848, p849, p850, p851, c852, c853, -⟩ := hq
        rotate_left
        ·
          have c854 : NM m m847 tg847 := NM_t cx_NM hx847 c853
          have lm855 := hx847.1
          refine Or.inr (Or.inr (Or.inr ⟨_, _, rfl, cx_exc (c := 15) ho847 ht847 (by decide), rfl, ?_⟩))
          have q856 : Fx (sc) (7 : Int) = F (sc) (7 : Int) := (show Fx (sc) (7 : Int) = F (sc) (7 : Int) from hMx _ _ o_sc (fun w => by have q1 := ho5.2; rw [w, ho4.2] at q1; exact absurd q1 (by decide)) (by rw [t_sc]; rfl))
          exact Or.inr ⟨m847, tg847, ln847, F847, x847, rfl, rfl, Ex_t hXx hx847, hC847, Fq_t (ln := ln) (ln1 := lnx) hMx hXx hM847 (by decide) (Or.inr (Or.inl rfl)), (And.intro ho847 ht847).1, (And.intro ho847 ht847).2, by omega, by omega, by omega, by omega, c852, c854, trivial⟩
        have hM857 : Fq pr [(7, 15), (9, 2), (10, 0), (10, 1), (10, 2), (10, 8), (11, 8), (11, 12), (11, 13), (11, 14), (11, 15), (11, 16), (11, 17), (11, 18)] m tg F F834 := Fq_t (ln := ln) (ln1 := lnx) hMx hXx hM837 (by decide) (Or.inr (Or.inl rfl))
        have lm858 := hx835.1
        have lt859 : pr < 64 + (mx : Int) := ho4.1.2.1
        have lt860 : F (me) (2 : Int) < 64 + (mx : Int) := by rcases y8 with w | w; (· omega); exact w.1.2.1
        have lt861 : la < 64 + (mx : Int) := ho827.1.2.1
        have ho862 : own m833 (me) ∧ tg833 (me) = 9 := Ex_o hx835 ⟨ho3.1, ho3.2⟩
        have ho863 : own m833 (pr) ∧ tg833 (pr) = 7 := Ex_o hx835 ⟨ho4.1, ho4.2⟩
        have y864 : F (me) (2 : Int) = 0 ∨ (own m833 (F (me) (2 : Int)) ∧ tg833 (F (me) (2 : Int)) = 7) := Ex_z hx835 y8
        have ho865 : own m833 (la) ∧ tg833 (la) = 7 := Ex_o hx835 ⟨ho827.1, ho827.2⟩
        have ho866 : own m833 (sc) ∧ tg833 (sc) = 11 := Ex_o hx835 ⟨ho5.1, ho5.2⟩
        have ho867 : own m833 (pg) ∧ tg833 (pg) = 10 := Ex_o hx835 ⟨ho6.1, ho6.2⟩
        have hX868 := Ex_t hXx hx835
        have c869 : NM m m833 tg833 := NM_t cx_NM hx835 c846
        refine Or.inl ⟨rfl, ?_⟩
        refine jx_rt (v := none) rfl rfl rfl rfl rfl rfl ?_
        have q870 : F834 (sc) (7 : Int) = F (sc) (7 : Int) := ((show F834 (sc) (7 : Int) = Fx (sc) (7 : Int) from hM837 _ _ ho5.1 (own_z ho5.1) (by rw [ho5.2]; rfl)).trans (show Fx (sc) (7 : Int) = F (sc) (7 : Int) from hMx _ _ o_sc (fun w => by have q1 := ho866.2; rw [w, ho863.2] at q1; exact absurd q1 (by decide)) (by rw [t_sc]; rfl)))
        have q871 : F834 (pg) (9 : Int) = F (pg) (9 : Int) := ((show F834 (pg) (9 : Int) = Fx (pg) (9 : Int) from hM837 _ _ ho6.1 (own_z ho6.1) (by rw [ho6.2]; rfl)).trans (show Fx (pg) (9 : Int) = F (pg) (9 : Int) from hMx _ _ o_pg (fun w => by have q1 := ho867.2; rw [w, ho863.2] at q1; exact absurd q1 (by decide)) (by rw [t_pg]; rfl)))
        have q872 := tz_b (F834 (sc) (15 : Int))
        have q873 := lz_b (F834 (sc) (14 : Int))
        have q874 : F834 (pg) (9 : Int) = F (pg) (9 : Int) := q871
        exact Or.inl ⟨m833, tg833, ln833, F834, rfl, rfl, hX868, hC836, hM857, by omega, by omega, by omega, by omega, by omega, by omega, by omega, c845, c869, trivial⟩
      · have _q := h828
        refine jx_ld (pc_q := 25) (l_q := L) (st_q := [.int (i32 (k))]) rfl (jl_iload gL_4) ?_
        refine jx_if_ne (pc_q := 28) (tg := 40) rfl rfl rfl (by omega) (by omega) (fun h875 => ?_) (fun h875 => ?_)
        · have _q := h875
          refine jx_ld (pc_q := 41) (l_q := L) (st_q := [rv (me)]) rfl (jl_rvn gL_0) ?_
          refine jx_ld (pc_q := 42) (l_q := L) (st_q := [rv (F (me) (2 : Int)), rv (me)]) rfl (jl_rvn gL_2) ?_
          have q876 := tz_b (Fx (sc) (15 : Int))
          have q877 : Fx (sc) (7 : Int) = F (sc) (7 : Int) := (show Fx (sc) (7 : Int) = F (sc) (7 : Int) from hMx _ _ o_sc (fun w => by have q1 := ho5.2; rw [w, ho4.2] at q1; exact absurd q1 (by decide)) (by rw [t_sc]; rfl))
          have q878 := lz_b (Fx (sc) (14 : Int))
          have q879 : Fx (pg) (9 : Int) = F (pg) (9 : Int) := (show Fx (pg) (9 : Int) = F (pg) (9 : Int) from hMx _ _ o_pg (fun w => by have q1 := ho6.2; rw [w, ho4.2] at q1; exact absurd q1 (by decide)) (by rw [t_pg]; rfl))
          refine cx_vi (c := 8) (a := me) (st := []) (as := [rv (F (me) (2 : Int))]) rfl rfl rfl ho3.1 ho3.2 (by decide) rfl ⟨rfl, rfl, (Nat.le_of_ble_eq_true rfl)⟩ rfl (k_LParser_readParameter (dd := d) (R := R) (m := mx) (tg := tgx) (ln := lnx) (F := Fx) (me := me) (bf := F (me) (2 : Int)) (hd := by omega) (hC := hCx) (o_me := ho3.1) (t_me := ho3.2) (y_bf := y8) (sc := sc) (pg := pg) (o_sc := ho5.1) (t_sc := ho5.2) (e_sc := ((show Fx (me) (1 : Int) = F (me) (1 : Int) from hMx _ _ o_me (fun w => by have q1 := ho3.2; rw [w, ho4.2] at q1; exact absurd q1 (by decide)) (by rw [t_me]; rfl)).trans e_sc)) (o_pg := ho6.1) (t_pg := ho6.2) (e_pg := ((show Fx (me) (0 : Int) = F (me) (0 : Int) from hMx _ _ o_me (fun w => by have q1 := ho3.2; rw [w, ho4.2] at q1; exact absurd q1 (by decide)) (by rw [t_me]; rfl)).trans e_pg)) (p_0 := by omega) (p_1 := by omega) (p_2 := by omega) (c_NP := cx_NP)) (fun o V_q hq => ?_)
          obtain ⟨m880, tg880, ln880, F881, r882, rfl, rfl, hx883, hC884, hM885, b886, p887, p888, p889, p890, p891, p892, p893, p894, p895, c896, c897, -⟩ | ⟨m898, tg898, ln898, F898, x898, rfl, rfl, hx898, hC898, hM898, ho898, ht898, p899, p900, p901, p902, c903, c904, -⟩ := hq
          rotate_left
          ·
            have c905 : NM m m898 tg898 := NM_t cx_NM hx898 c904
            have lm906 := hx898.1
            refine Or.inr (Or.inr (Or.inr ⟨_, _, rfl, cx_exc (c := 15) ho898 ht898 (by decide), rfl, ?_⟩))
            have q907 : Fx (sc) (7 : Int) = F (sc) (7 : Int) := (show Fx (sc) (7 : Int) = F (sc) (7 : Int) from hMx _ _ o_sc (fun w => by have q1 := ho5.2; rw [w, ho4.2] at q1; exact absurd q1 (by decide)) (by rw [t_sc]; rfl))
            exact Or.inr ⟨m898, tg898, ln898, F898, x898, rfl, rfl, Ex_t hXx hx898, hC898, Fq_t (ln := ln) (ln1 := lnx) hMx hXx hM898 (by decide) (Or.inr (Or.inl rfl)), (And.intro ho898 ht898).1, (And.intro ho898 ht898).2, by omega, by omega, by omega, by omega, c903, c905, trivial⟩
          have hM908 : Fq pr [(7, 15), (9, 2), (10, 0), (10, 1), (10, 2), (10, 8), (11, 8), (11, 12), (11, 13), (11, 14), (11, 15), (11, 16), (11, 17), (11, 18)] m tg F F881 := Fq_t (ln := ln) (ln1 := lnx) hMx hXx hM885 (by decide) (Or.inr (Or.inl rfl))
          have lm909 := hx883.1
          have lt910 : pr < 64 + (mx : Int) := ho4.1.2.1
          have lt911 : F (me) (2 : Int) < 64 + (mx : Int) := by rcases y8 with w | w; (· omega); exact w.1.2.1
          have lt912 : la < 64 + (mx : Int) := ho827.1.2.1
          have ho913 : own m880 (me) ∧ tg880 (me) = 9 := Ex_o hx883 ⟨ho3.1, ho3.2⟩
          have ho914 : own m880 (pr) ∧ tg880 (pr) = 7 := Ex_o hx883 ⟨ho4.1, ho4.2⟩
          have y915 : F (me) (2 : Int) = 0 ∨ (own m880 (F (me) (2 : Int)) ∧ tg880 (F (me) (2 : Int)) = 7) := Ex_z hx883 y8
          have ho916 : own m880 (la) ∧ tg880 (la) = 7 := Ex_o hx883 ⟨ho827.1, ho827.2⟩
          have ho917 : own m880 (sc) ∧ tg880 (sc) = 11 := Ex_o hx883 ⟨ho5.1, ho5.2⟩
          have ho918 : own m880 (pg) ∧ tg880 (pg) = 10 := Ex_o hx883 ⟨ho6.1, ho6.2⟩
          have hX919 := Ex_t hXx hx883
          have c920 : NM m m880 tg880 := NM_t cx_NM hx883 c897
          refine Or.inr (Or.inl ⟨_, rfl, ?_⟩)
          refine jx_ld (pc_q := 47) (l_q := jSto1 L 5 (rv (r882))) (st_q := []) rfl (js_rv (by decide)) ?_
          obtain ⟨L921, eL921⟩ : ∃ q : jL, q = jSto1 L 5 (rv (r882)) := ⟨_, rfl⟩
          rw [← eL921]
          have g922 : jGet L921 0 = some (rv (me)) := eL921 ▸ jg_nr (by decide) gL_0
          have g923 : jGet L921 1 = some (rv (pr)) := eL921 ▸ jg_nr (by decide) gL_1
          have g924 : jGet L921 2 = some (rv (F (me) (2 : Int))) := eL921 ▸ jg_nr (by decide) gL_2
          have g925 : jGet L921 4 = some (.int (i32 (k))) := eL921 ▸ jg_ne (by decide) gL_4 rfl
          have g926 : jGet L921 3 = some (rv (la)) := eL921 ▸ jg_nr (by decide) gL_3
          have g927 : jGet L921 5 = some (rv (r882)) := eL921 ▸ jg_eq
          clear eL921
          refine jx_ld (pc_q := 48) (l_q := L921) (st_q := [rv (la)]) rfl (jl_rvn g926) ?_
          refine cx_non (pc_q := 51) (tg_q := 60) rfl rfl rfl (fun h928 => ?_) (fun h928 => ?_)
          · have _q := h928
            refine jx_ld (pc_q := 61) (l_q := L921) (st_q := [rv (la)]) rfl (jl_rvn g926) ?_
            refine jx_ld (pc_q := 63) (l_q := L921) (st_q := [rv (r882), rv (la)]) rfl (jl_rv g927) ?_
            refine cx_po (pc_q := 66) (c := 6) (q := 14) (qi := (14 : Int)) (z := r882) rfl rfl (by decide) (by decide) rfl rfl rfl (by decide) rfl ho916.1 ho916.2 rfl ?_
            obtain ⟨F929, eF929⟩ : ∃ q, q = uF F881 (la) (14 : Int) (r882) := ⟨_, rfl⟩
            rw [← eF929]
            have hC930 : HC 0 m880 tg880 ln880 F929 := by rw [eF929]; exact HC_fr (c := 6) (q := 14) (by decide) hC884 ho916.2 (by decide) rfl (Or.inr ⟨b886.1, b886.2⟩) ⟨fun w => absurd w (by decide), fun w => absurd w (by decide)⟩
            have hM931 : Fq pr [(7, 15), (9, 2), (10, 0), (10, 1), (10, 2), (10, 8), (11, 8), (11, 12), (11, 13), (11, 14), (11, 15), (11, 16), (11, 17), (11, 18)] m tg F F929 := by rw [eF929]; exact Fq_x hM908 (Or.inr (by omega))
            have c932 : NP m880 tg880 F929 := by rw [eF929]; exact NP_nm hC884 c896 ho916.2 (Or.inl ⟨rfl, (by rw [show F881 (la) (14 : Int) = Fx (la) (14 : Int) from (show F881 (la) (14 : Int) = Fx (la) (14 : Int) from hM885 _ _ ho827.1 (own_z ho827.1) (by rw [ho827.2]; rfl))]; omega), by omega⟩)
            refine jx_ld (pc_q := 68) (l_q := L921) (st_q := [rv (r882)]) rfl (jl_rv g927) ?_
            refine jx_ld (pc_q := 69) (l_q := jSto1 L921 3 (rv (r882))) (st_q := []) rfl (js_rvn (by decide)) ?_
            obtain ⟨L933, eL933⟩ : ∃ q : jL, q = jSto1 L921 3 (rv (r882)) := ⟨_, rfl⟩
            rw [← eL933]
            have g934 : jGet L933 0 = some (rv (me)) := eL933 ▸ jg_nr (by decide) g922
            have g935 : jGet L933 1 = some (rv (pr)) := eL933 ▸ jg_nr (by decide) g923
            have g936 : jGet L933 2 = some (rv (F (me) (2 : Int))) := eL933 ▸ jg_nr (by decide) g924
            have g937 : jGet L933 4 = some (.int (i32 (k))) := eL933 ▸ jg_ne (by decide) g925 rfl
            have g938 : jGet L933 5 = some (rv (r882)) := eL933 ▸ jg_nr (by decide) g927
            have g939 : jGet L933 3 = some (rv (r882)) := eL933 ▸ jg_eq
            clear eL933
            refine jx_ld (pc_q := 70) (l_q := L933) (st_q := [rv (pr)]) rfl (jl_rvn g935) ?_
            refine jx_ar (pc_q := 71) (st_q := [rv (pr), rv (pr)]) rfl rfl ja_dup rfl ?_
            refine cx_gi (pc_q := 74) (c := 6) (q := 8) (v := Fx (pr) (8 : Int)) rfl rfl (by decide) (by decide) (Or.inl rfl) rfl ho914.1 ho914.2 ((show F929 (pr) (8 : Int) = F881 (pr) (8 : Int) from by rw [eF929]; exact uF_j (by decide)).trans (show F881 (pr) (8 : Int) = Fx (pr) (8 : Int) from hM885 _ _ ho4.1 (own_z ho4.1) (by rw [ho4.2]; rfl))) ?_
            have b940 : (-2147483648 : Int) ≤ Fx (pr) (8 : Int) ∧ Fx (pr) (8 : Int) ≤ 2147483647 := by have z := HC_i (c := 6) (q := 8) hC930 ho914.1 ho914.2 (by decide) rfl; rw [show F929 (pr) ((8 : Nat) : Int) = Fx (pr) (8 : Int) from ((show F929 (pr) (8 : Int) = F881 (pr) (8 : Int) from by rw [eF929]; exact uF_j (by decide)).trans (show F881 (pr) (8 : Int) = Fx (pr) (8 : Int) from hM885 _ _ ho4.1 (own_z ho4.1) (by rw [ho4.2]; rfl)))] at z; exact z
            refine jx_ar (pc_q := 75) (st_q := [.int (i32 (1)), .int (i32 (Fx (pr) (8 : Int))), rv (pr)]) rfl rfl rfl rfl ?_
            refine jx_add (pc_q := 76) rfl rfl ?_
            obtain ⟨z941, ez941⟩ : ∃ q, q = (i32 ((Fx (pr) (8 : Int) + 1))).toInt := ⟨_, rfl⟩
            have bz941 : (-2147483648 : Int) ≤ z941 ∧ z941 ≤ 2147483647 := ez941 ▸ i32_rg _
            rw [show i32 ((Fx (pr) (8 : Int) + 1)) = i32 z941 by rw [ez941, i32_of]]
            clear ez941
            refine cx_pi (pc_q := 79) (c := 6) (q := 8) (qi := (8 : Int)) (z := z941) rfl rfl (by decide) (by decide) rfl rfl rfl (by decide) rfl ho914.1 ho914.2 rfl ?_
            obtain ⟨F942, eF942⟩ : ∃ q, q = uF F929 (pr) (8 : Int) (z941) := ⟨_, rfl⟩
            rw [← eF942]
            have hC943 : HC 0 m880 tg880 ln880 F942 := by rw [eF942]; exact HC_fi (c := 6) (q := 8) hC930 ho914.2 (by decide) rfl (by omega) (by omega) ⟨fun w => absurd w (by decide), fun w => absurd w (by decide)⟩
            have hM944 : Fq pr [(7, 15), (9, 2), (10, 0), (10, 1), (10, 2), (10, 8), (11, 8), (11, 12), (11, 13), (11, 14), (11, 15), (11, 16), (11, 17), (11, 18)] m tg F F942 := by rw [eF942]; exact Fq_x hM931 (Or.inl rfl)
            have c945 : NP m880 tg880 F942 := by rw [eF942]; exact NP_u hC930 c932 ho914.2 (by omega)
            refine jx_ld (pc_q := 80) (l_q := L933) (st_q := [rv (me)]) rfl (jl_rvn g934) ?_
            refine cx_gr (pc_q := 83) (c := 8) (q := 1) (v := sc) rfl rfl (by decide) (by decide) rfl rfl ho913.1 ho913.2 (((show F942 (me) (1 : Int) = F929 (me) (1 : Int) from by rw [eF942]; exact uF_j (by decide)).trans ((show F929 (me) (1 : Int) = F881 (me) (1 : Int) from by rw [eF929]; exact uF_j (by decide)).trans ((show F881 (me) (1 : Int) = Fx (me) (1 : Int) from hM885 _ _ ho3.1 (own_z ho3.1) (by rw [ho3.2]; rfl)).trans (show Fx (me) (1 : Int) = F (me) (1 : Int) from hMx _ _ o_me (fun w => by have q1 := ho913.2; rw [w, ho914.2] at q1; exact absurd q1 (by decide)) (by rw [t_me]; rfl))))).trans e_sc) ?_
            refine cx_gi (pc_q := 86) (c := 10) (q := 15) (v := F881 (sc) (15 : Int)) rfl rfl (by decide) (by decide) (Or.inl rfl) rfl ho917.1 ho917.2 ((show F942 (sc) (15 : Int) = F929 (sc) (15 : Int) from by rw [eF942]; exact uF_j (by decide)).trans (show F929 (sc) (15 : Int) = F881 (sc) (15 : Int) from by rw [eF929]; exact uF_j (by decide))) ?_
            have b946 : (-2147483648 : Int) ≤ F881 (sc) (15 : Int) ∧ F881 (sc) (15 : Int) ≤ 2147483647 := by have z := HC_i (c := 10) (q := 15) hC943 ho917.1 ho917.2 (by decide) rfl; rw [show F942 (sc) ((15 : Nat) : Int) = F881 (sc) (15 : Int) from ((show F942 (sc) (15 : Int) = F929 (sc) (15 : Int) from by rw [eF942]; exact uF_j (by decide)).trans (show F929 (sc) (15 : Int) = F881 (sc) (15 : Int) from by rw [eF929]; exact uF_j (by decide)))] at z; exact z
            refine jx_ar (pc_q := 88) (st_q := [.int (i32 (52)), .int (i32 (F881 (sc) (15 : Int)))]) rfl rfl rfl rfl ?_
            refine jx_icmp_ne (pc_q := 91) (tg := 116) rfl rfl rfl (by omega) (by omega) (by decide) (by decide) (fun h947 => ?_) (fun h947 => ?_)
            · have _q := h947
              refine jx_ld (pc_q := 117) (l_q := L933) (st_q := [rv (me)]) rfl (jl_rvn g934) ?_
              refine jx_ar (pc_q := 119) (st_q := [.int (i32 (55)), rv (me)]) rfl rfl rfl rfl ?_
              have q948 : F942 (sc) (8 : Int) = F881 (sc) (8 : Int) := ((show F942 (sc) (8 : Int) = F929 (sc) (8 : Int) from by rw [eF942]; exact uF_a (fun w => by have q1 := ho917.2; have q2 := ho914.2; rw [w, q2] at q1; exact absurd q1 (by decide))).trans (show F929 (sc) (8 : Int) = F881 (sc) (8 : Int) from by rw [eF929]; exact uF_j (by decide)))
              have q949 : F942 (sc) (15 : Int) = F881 (sc) (15 : Int) := ((show F942 (sc) (15 : Int) = F929 (sc) (15 : Int) from by rw [eF942]; exact uF_j (by decide)).trans (show F929 (sc) (15 : Int) = F881 (sc) (15 : Int) from by rw [eF929]; exact uF_j (by decide)))
              have q950 : tz (F942 (sc) (15 : Int)) = tz (F881 (sc) (15 : Int)) := by rw [q949]
              have q951 := tz_b (F881 (sc) (15 : Int))
              have q952 : F942 (sc) (7 : Int) = F (sc) (7 : Int) := ((show F942 (sc) (7 : Int) = F929 (sc) (7 : Int) from by rw [eF942]; exact uF_j (by decide)).trans ((show F929 (sc) (7 : Int) = F881 (sc) (7 : Int) from by rw [eF929]; exact uF_j (by decide)).trans ((show F881 (sc) (7 : Int) = Fx (sc) (7 : Int) from hM885 _ _ ho5.1 (own_z ho5.1) (by rw [ho5.2]; rfl)).trans (show Fx (sc) (7 : Int) = F (sc) (7 : Int) from hMx _ _ o_sc (fun w => by have q1 := ho917.2; rw [w, ho914.2] at q1; exact absurd q1 (by decide)) (by rw [t_sc]; rfl)))))
              have q953 : F942 (sc) (14 : Int) = F881 (sc) (14 : Int) := ((show F942 (sc) (14 : Int) = F929 (sc) (14 : Int) from by rw [eF942]; exact uF_j (by decide)).trans (show F929 (sc) (14 : Int) = F881 (sc) (14 : Int) from by rw [eF929]; exact uF_a (fun w => by have q1 := ho917.2; have q2 := ho916.2; rw [w, q2] at q1; exact absurd q1 (by decide))))
              have q954 : lz (F942 (sc) (14 : Int)) = lz (F881 (sc) (14 : Int)) := by rw [q953]
              have q955 := lz_b (F881 (sc) (14 : Int))
              have q956 : F942 (pg) (9 : Int) = F (pg) (9 : Int) := ((show F942 (pg) (9 : Int) = F929 (pg) (9 : Int) from by rw [eF942]; exact uF_j (by decide)).trans ((show F929 (pg) (9 : Int) = F881 (pg) (9 : Int) from by rw [eF929]; exact uF_j (by decide)).trans ((show F881 (pg) (9 : Int) = Fx (pg) (9 : Int) from hM885 _ _ ho6.1 (own_z ho6.1) (by rw [ho6.2]; rfl)).trans (show Fx (pg) (9 : Int) = F (pg) (9 : Int) from hMx _ _ o_pg (fun w => by have q1 := ho918.2; rw [w, ho914.2] at q1; exact absurd q1 (by decide)) (by rw [t_pg]; rfl)))))
              refine cx_vi (c := 8) (a := me) (st := []) (as := [.int (i32 (55))]) rfl rfl rfl ho913.1 ho913.2 (by decide) rfl ⟨rfl, rfl, (Nat.le_of_ble_eq_true rfl)⟩ rfl (k_LParser_expect (dd := d) (R := R) (m := m880) (tg := tg880) (ln := ln880) (F := F942) (me := me) (tk := 55) (hd := by omega) (hC := hC943) (o_me := ho913.1) (t_me := ho913.2) (h_tk := by omega) (sc := sc) (pg := pg) (o_sc := ho917.1) (t_sc := ho917.2) (e_sc := (((show F942 (me) (1 : Int) = F929 (me) (1 : Int) from by rw [eF942]; exact uF_j (by decide)).trans ((show F929 (me) (1 : Int) = F881 (me) (1 : Int) from by rw [eF929]; exact uF_j (by decide)).trans ((show F881 (me) (1 : Int) = Fx (me) (1 : Int) from hM885 _ _ ho3.1 (own_z ho3.1) (by rw [ho3.2]; rfl)).trans (show Fx (me) (1 : Int) = F (me) (1 : Int) from hMx _ _ o_me (fun w => by have q1 := ho913.2; rw [w, ho914.2] at q1; exact absurd q1 (by decide)) (by rw [t_me]; rfl))))).trans e_sc)) (o_pg := ho918.1) (t_pg := ho918.2) (e_pg := (((show F942 (me) (0 : Int) = F929 (me) (0 : Int) from by rw [eF942]; exact uF_j (by decide)).trans ((show F929 (me) (0 : Int) = F881 (me) (0 : Int) from by rw [eF929]; exact uF_j (by decide)).trans ((show F881 (me) (0 : Int) = Fx (me) (0 : Int) from hM885 _ _ ho3.1 (own_z ho3.1) (by rw [ho3.2]; rfl)).trans (show Fx (me) (0 : Int) = F (me) (0 : Int) from hMx _ _ o_me (fun w => by have q1 := ho913.2; rw [w, ho914.2] at q1; exact absurd q1 (by decide)) (by rw [t_me]; rfl))))).trans e_pg)) (p_0 := by omega) (p_1 := by omega) (p_2 := by omega) (p_3 := by omega) (c_NP := c945)) (fun o V_q hq => ?_)
              obtain ⟨m957, tg957, ln957, F958, rfl, rfl, hx959, hC960, hM961, p962, p963, p964, p965, p966, p967, p968, c969, c970, -⟩ | ⟨m971, tg971, ln971, F971, x971, rfl, rfl, hx971, hC971, hM971, ho971, ht971, p972, p973, p974, p975, c976, c977, -⟩ := hq
              rotate_left
              ·
                have c978 : NM m m971 tg971 := NM_t c920 hx971 c977
                have lm979 := hx971.1
                refine Or.inr (Or.inr (Or.inr ⟨_, _, rfl, cx_exc (c := 15) ho971 ht971 (by decide), rfl, ?_⟩))
                have q980 : F942 (sc) (8 : Int) = F881 (sc) (8 : Int) := q948
                have q981 : F942 (sc) (7 : Int) = F (sc) (7 : Int) := q952
                exact Or.inr ⟨m971, tg971, ln971, F971, x971, rfl, rfl, Ex_t hX919 hx971, hC971, Fq_t (ln := ln) (ln1 := ln880) hM944 hX919 hM971 (by decide) (Or.inr (Or.inl rfl)), (And.intro ho971 ht971).1, (And.intro ho971 ht971).2, by omega, by omega, by omega, by omega, c976, c978, trivial⟩
              have hM982 : Fq pr [(7, 15), (9, 2), (10, 0), (10, 1), (10, 2), (10, 8), (11, 8), (11, 12), (11, 13), (11, 14), (11, 15), (11, 16), (11, 17), (11, 18)] m tg F F958 := Fq_t (ln := ln) (ln1 := ln880) hM944 hX919 hM961 (by decide) (Or.inr (Or.inl rfl))
              have lm983 := hx959.1
              have lt984 : pr < 64 + (m880 : Int) := ho914.1.2.1
              have lt985 : F (me) (2 : Int) < 64 + (m880 : Int) := by rcases y915 with w | w; (· omega); exact w.1.2.1
              have lt986 : r882 < 64 + (m880 : Int) := b886.1.2.1
              have ho987 : own m957 (me) ∧ tg957 (me) = 9 := Ex_o hx959 ⟨ho913.1, ho913.2⟩
              have ho988 : own m957 (pr) ∧ tg957 (pr) = 7 := Ex_o hx959 ⟨ho914.1, ho914.2⟩
              have y989 : F (me) (2 : Int) = 0 ∨ (own m957 (F (me) (2 : Int)) ∧ tg957 (F (me) (2 : Int)) = 7) := Ex_z hx959 y915
              have ho990 : own m957 (r882) ∧ tg957 (r882) = 7 := Ex_o hx959 ⟨b886.1, b886.2⟩
              have ho991 : own m957 (sc) ∧ tg957 (sc) = 11 := Ex_o hx959 ⟨ho917.1, ho917.2⟩
              have ho992 : own m957 (pg) ∧ tg957 (pg) = 10 := Ex_o hx959 ⟨ho918.1, ho918.2⟩
              have hX993 := Ex_t hX919 hx959
              have c994 : NM m m957 tg957 := NM_t c920 hx959 c970
              refine Or.inl ⟨rfl, ?_⟩
              refine jx_rt (v := none) rfl rfl rfl rfl rfl rfl ?_
              have q995 : F958 (sc) (7 : Int) = F (sc) (7 : Int) := ((show F958 (sc) (7 : Int) = F942 (sc) (7 : Int) from hM961 _ _ ho917.1 (own_z ho917.1) (by rw [ho917.2]; rfl)).trans q952)
              have q996 : F958 (pg) (9 : Int) = F (pg) (9 : Int) := ((show F958 (pg) (9 : Int) = F942 (pg) (9 : Int) from hM961 _ _ ho918.1 (own_z ho918.1) (by rw [ho918.2]; rfl)).trans q956)
              have q997 := tz_b (F958 (sc) (15 : Int))
              have q998 := lz_b (F958 (sc) (14 : Int))
              have q999 : F958 (pg) (9 : Int) = F (pg) (9 : Int) := q996
              exact Or.inl ⟨m957, tg957, ln957, F958, rfl, rfl, hX993, hC960, hM982, by omega, by omega, by omega, by omega, by omega, by omega, by omega, c969, c994, trivial⟩
            · have _q := h947
              have t1000 : tz (F881 (sc) (15 : Int)) = 1 := tz_p (by omega)
              refine jx_ld (pc_q := 92) (l_q := L933) (st_q := [rv (pr)]) rfl (jl_rvn g935) ?_
              refine cx_gi (pc_q := 95) (c := 6) (q := 8) (v := z941) rfl rfl (by decide) (by decide) (Or.inl rfl) rfl ho914.1 ho914.2 (show F942 (pr) (8 : Int) = z941 from by rw [eF942]; exact uF_e) ?_
              refine jx_ar (pc_q := 97) (st_q := [.int (i32 (6)), .int (i32 (z941))]) rfl rfl rfl rfl ?_
              refine jx_icmp_ne (pc_q := 100) (tg := 103) rfl rfl rfl (by omega) (by omega) (by decide) (by decide) (fun h1001 => ?_) (fun h1001 => ?_)
              · have _q := h1001
                refine jx_ld (pc_q := 104) (l_q := L933) (st_q := [rv (me)]) rfl (jl_rvn g934) ?_
                refine cx_gr (pc_q := 107) (c := 8) (q := 1) (v := sc) rfl rfl (by decide) (by decide) rfl rfl ho913.1 ho913.2 (((show F942 (me) (1 : Int) = F929 (me) (1 : Int) from by rw [eF942]; exact uF_j (by decide)).trans ((show F929 (me) (1 : Int) = F881 (me) (1 : Int) from by rw [eF929]; exact uF_j (by decide)).trans ((show F881 (me) (1 : Int) = Fx (me) (1 : Int) from hM885 _ _ ho3.1 (own_z ho3.1) (by rw [ho3.2]; rfl)).trans (show Fx (me) (1 : Int) = F (me) (1 : Int) from hMx _ _ o_me (fun w => by have q1 := ho913.2; rw [w, ho914.2] at q1; exact absurd q1 (by decide)) (by rw [t_me]; rfl))))).trans e_sc) ?_
                have q1002 : F942 (sc) (8 : Int) = F881 (sc) (8 : Int) := ((show F942 (sc) (8 : Int) = F929 (sc) (8 : Int) from by rw [eF942]; exact uF_a (fun w => by have q1 := ho917.2; have q2 := ho914.2; rw [w, q2] at q1; exact absurd q1 (by decide))).trans (show F929 (sc) (8 : Int) = F881 (sc) (8 : Int) from by rw [eF929]; exact uF_j (by decide)))
                have q1003 : F942 (sc) (15 : Int) = F881 (sc) (15 : Int) := ((show F942 (sc) (15 : Int) = F929 (sc) (15 : Int) from by rw [eF942]; exact uF_j (by decide)).trans (show F929 (sc) (15 : Int) = F881 (sc) (15 : Int) from by rw [eF929]; exact uF_j (by decide)))
                have q1004 : tz (F942 (sc) (15 : Int)) = tz (F881 (sc) (15 : Int)) := by rw [q1003]
                have q1005 := tz_b (F881 (sc) (15 : Int))
                have q1006 : F942 (sc) (7 : Int) = F (sc) (7 : Int) := ((show F942 (sc) (7 : Int) = F929 (sc) (7 : Int) from by rw [eF942]; exact uF_j (by decide)).trans ((show F929 (sc) (7 : Int) = F881 (sc) (7 : Int) from by rw [eF929]; exact uF_j (by decide)).trans ((show F881 (sc) (7 : Int) = Fx (sc) (7 : Int) from hM885 _ _ ho5.1 (own_z ho5.1) (by rw [ho5.2]; rfl)).trans (show Fx (sc) (7 : Int) = F (sc) (7 : Int) from hMx _ _ o_sc (fun w => by have q1 := ho917.2; rw [w, ho914.2] at q1; exact absurd q1 (by decide)) (by rw [t_sc]; rfl)))))
                have q1007 : F942 (sc) (14 : Int) = F881 (sc) (14 : Int) := ((show F942 (sc) (14 : Int) = F929 (sc) (14 : Int) from by rw [eF942]; exact uF_j (by decide)).trans (show F929 (sc) (14 : Int) = F881 (sc) (14 : Int) from by rw [eF929]; exact uF_a (fun w => by have q1 := ho917.2; have q2 := ho916.2; rw [w, q2] at q1; exact absurd q1 (by decide))))
                have q1008 : lz (F942 (sc) (14 : Int)) = lz (F881 (sc) (14 : Int)) := by rw [q1007]
                have q1009 := lz_b (F881 (sc) (14 : Int))
                refine cx_vi (c := 10) (a := sc) (st := []) (as := []) rfl rfl rfl ho917.1 ho917.2 (by decide) rfl ⟨rfl, rfl, (Nat.le_of_ble_eq_true rfl)⟩ rfl (k_LScanner_next (dd := d) (R := R) (m := m880) (tg := tg880) (ln := ln880) (F := F942) (me := sc) (hd := by omega) (hC := hC943) (o_me := ho917.1) (t_me := ho917.2) (p_0 := by omega) (p_1 := by omega)) (fun o V_q hq => ?_)
                obtain ⟨F1010, rfl, rfl, hC1011, hM1012, p1013, p1014, p1015, -⟩ := hq
                have hM1016 : Fq pr [(7, 15), (9, 2), (10, 0), (10, 1), (10, 2), (10, 8), (11, 8), (11, 12), (11, 13), (11, 14), (11, 15), (11, 16), (11, 17), (11, 18)] m tg F F1010 := Fq_t (ln := ln) (ln1 := ln880) hM944 hX919 hM1012 (by decide) (Or.inr (Or.inl rfl))
                have c1017 : NP m880 tg880 F1010 := NP_q hC943 c945 hM1012 rfl rfl
                refine Or.inl ⟨rfl, ?_⟩
                refine jx_inc (pc_q := 113) (l_q := jSto1 L933 4 (.int (i32 (k + (1))))) (x := k) rfl g937 (by decide) rfl rfl ?_
                obtain ⟨L1018, eL1018⟩ : ∃ q : jL, q = jSto1 L933 4 (.int (i32 ((k + (1))))) := ⟨_, rfl⟩
                rw [← eL1018]
                have g1019 : jGet L1018 0 = some (rv (me)) := eL1018 ▸ jg_nr (by decide) g934
                have g1020 : jGet L1018 1 = some (rv (pr)) := eL1018 ▸ jg_nr (by decide) g935
                have g1021 : jGet L1018 2 = some (rv (F (me) (2 : Int))) := eL1018 ▸ jg_nr (by decide) g936
                have g1022 : jGet L1018 5 = some (rv (r882)) := eL1018 ▸ jg_nr (by decide) g938
                have g1023 : jGet L1018 3 = some (rv (r882)) := eL1018 ▸ jg_nr (by decide) g939
                have g1024 : jGet L1018 4 = some (.int (i32 ((k + (1))))) := eL1018 ▸ jg_eq
                clear eL1018
                refine jx_go (tg := 16) rfl rfl ?_
                have q1025 := tz_b (F1010 (sc) (15 : Int))
                have q1026 := lz_b (F1010 (sc) (14 : Int))
                have q1027 : F1010 (pg) (9 : Int) = F (pg) (9 : Int) := ((show F1010 (pg) (9 : Int) = F942 (pg) (9 : Int) from hM1012 _ _ ho918.1 (own_z ho918.1) (by rw [ho918.2]; rfl)).trans ((show F942 (pg) (9 : Int) = F929 (pg) (9 : Int) from by rw [eF942]; exact uF_j (by decide)).trans ((show F929 (pg) (9 : Int) = F881 (pg) (9 : Int) from by rw [eF929]; exact uF_j (by decide)).trans ((show F881 (pg) (9 : Int) = Fx (pg) (9 : Int) from hM885 _ _ ho6.1 (own_z ho6.1) (by rw [ho6.2]; rfl)).trans (show Fx (pg) (9 : Int) = F (pg) (9 : Int) from hMx _ _ o_pg (fun w => by have q1 := ho918.2; rw [w, ho914.2] at q1; exact absurd q1 (by decide)) (by rw [t_pg]; rfl))))))
                have q1028 : F1010 (pr) (13 : Int) = Fx (pr) (13 : Int) := ((show F1010 (pr) (13 : Int) = F942 (pr) (13 : Int) from hM1012 _ _ ho914.1 (own_z ho914.1) (by rw [ho914.2]; rfl)).trans ((show F942 (pr) (13 : Int) = F929 (pr) (13 : Int) from by rw [eF942]; exact uF_j (by decide)).trans ((show F929 (pr) (13 : Int) = F881 (pr) (13 : Int) from by rw [eF929]; exact uF_j (by decide)).trans (show F881 (pr) (13 : Int) = Fx (pr) (13 : Int) from hM885 _ _ ho4.1 (own_z ho4.1) (by rw [ho4.2]; rfl)))))
                have q1029 : F1010 (r882) (14 : Int) = F881 (r882) (14 : Int) := ((show F1010 (r882) (14 : Int) = F942 (r882) (14 : Int) from hM1012 _ _ b886.1 (own_z b886.1) (by rw [b886.2]; rfl)).trans ((show F942 (r882) (14 : Int) = F929 (r882) (14 : Int) from by rw [eF942]; exact uF_j (by decide)).trans (show F929 (r882) (14 : Int) = F881 (r882) (14 : Int) from by rw [eF929]; exact uF_a (by omega))))
                exact ih _ (by omega) L1018 m880 tg880 ln880 F1010 ((k + (1))) (r882) rfl g1019 g1020 g1021 g1024 g1023 hX919 hC1011 hM1016 (by omega) (Or.inr ⟨b886.1, b886.2⟩) (by omega) (by omega) (by omega) (by omega) (by omega) (by omega) (by omega) (by omega) (by omega) (by omega) c1017 c920
              · have _q := h1001
                refine jx_go (tg := 116) rfl rfl ?_
                refine jx_ld (pc_q := 117) (l_q := L933) (st_q := [rv (me)]) rfl (jl_rvn g934) ?_
                refine jx_ar (pc_q := 119) (st_q := [.int (i32 (55)), rv (me)]) rfl rfl rfl rfl ?_
                have q1030 : F942 (sc) (8 : Int) = F881 (sc) (8 : Int) := ((show F942 (sc) (8 : Int) = F929 (sc) (8 : Int) from by rw [eF942]; exact uF_a (fun w => by have q1 := ho917.2; have q2 := ho914.2; rw [w, q2] at q1; exact absurd q1 (by decide))).trans (show F929 (sc) (8 : Int) = F881 (sc) (8 : Int) from by rw [eF929]; exact uF_j (by decide)))
                have q1031 : F942 (sc) (15 : Int) = F881 (sc) (15 : Int) := ((show F942 (sc) (15 : Int) = F929 (sc) (15 : Int) from by rw [eF942]; exact uF_j (by decide)).trans (show F929 (sc) (15 : Int) = F881 (sc) (15 : Int) from by rw [eF929]; exact uF_j (by decide)))
                have q1032 : tz (F942 (sc) (15 : Int)) = tz (F881 (sc) (15 : Int)) := by rw [q1031]
                have q1033 := tz_b (F881 (sc) (15 : Int))
                have q1034 : F942 (sc) (7 : Int) = F (sc) (7 : Int) := ((show F942 (sc) (7 : Int) = F929 (sc) (7 : Int) from by rw [eF942]; exact uF_j (by decide)).trans ((show F929 (sc) (7 : Int) = F881 (sc) (7 : Int) from by rw [eF929]; exact uF_j (by decide)).trans ((show F881 (sc) (7 : Int) = Fx (sc) (7 : Int) from hM885 _ _ ho5.1 (own_z ho5.1) (by rw [ho5.2]; rfl)).trans (show Fx (sc) (7 : Int) = F (sc) (7 : Int) from hMx _ _ o_sc (fun w => by have q1 := ho917.2; rw [w, ho914.2] at q1; exact absurd q1 (by decide)) (by rw [t_sc]; rfl)))))
                have q1035 : F942 (sc) (14 : Int) = F881 (sc) (14 : Int) := ((show F942 (sc) (14 : Int) = F929 (sc) (14 : Int) from by rw [eF942]; exact uF_j (by decide)).trans (show F929 (sc) (14 : Int) = F881 (sc) (14 : Int) from by rw [eF929]; exact uF_a (fun w => by have q1 := ho917.2; have q2 := ho916.2; rw [w, q2] at q1; exact absurd q1 (by decide))))
                have q1036 : lz (F942 (sc) (14 : Int)) = lz (F881 (sc) (14 : Int)) := by rw [q1035]
                have q1037 := lz_b (F881 (sc) (14 : Int))
                have q1038 : F942 (pg) (9 : Int) = F (pg) (9 : Int) := ((show F942 (pg) (9 : Int) = F929 (pg) (9 : Int) from by rw [eF942]; exact uF_j (by decide)).trans ((show F929 (pg) (9 : Int) = F881 (pg) (9 : Int) from by rw [eF929]; exact uF_j (by decide)).trans ((show F881 (pg) (9 : Int) = Fx (pg) (9 : Int) from hM885 _ _ ho6.1 (own_z ho6.1) (by rw [ho6.2]; rfl)).trans (show Fx (pg) (9 : Int) = F (pg) (9 : Int) from hMx _ _ o_pg (fun w => by have q1 := ho918.2; rw [w, ho914.2] at q1; exact absurd q1 (by decide)) (by rw [t_pg]; rfl)))))
                refine cx_vi (c := 8) (a := me) (st := []) (as := [.int (i32 (55))]) rfl rfl rfl ho913.1 ho913.2 (by decide) rfl ⟨rfl, rfl, (Nat.le_of_ble_eq_true rfl)⟩ rfl (k_LParser_expect (dd := d) (R := R) (m := m880) (tg := tg880) (ln := ln880) (F := F942) (me := me) (tk := 55) (hd := by omega) (hC := hC943) (o_me := ho913.1) (t_me := ho913.2) (h_tk := by omega) (sc := sc) (pg := pg) (o_sc := ho917.1) (t_sc := ho917.2) (e_sc := (((show F942 (me) (1 : Int) = F929 (me) (1 : Int) from by rw [eF942]; exact uF_j (by decide)).trans ((show F929 (me) (1 : Int) = F881 (me) (1 : Int) from by rw [eF929]; exact uF_j (by decide)).trans ((show F881 (me) (1 : Int) = Fx (me) (1 : Int) from hM885 _ _ ho3.1 (own_z ho3.1) (by rw [ho3.2]; rfl)).trans (show Fx (me) (1 : Int) = F (me) (1 : Int) from hMx _ _ o_me (fun w => by have q1 := ho913.2; rw [w, ho914.2] at q1; exact absurd q1 (by decide)) (by rw [t_me]; rfl))))).trans e_sc)) (o_pg := ho918.1) (t_pg := ho918.2) (e_pg := (((show F942 (me) (0 : Int) = F929 (me) (0 : Int) from by rw [eF942]; exact uF_j (by decide)).trans ((show F929 (me) (0 : Int) = F881 (me) (0 : Int) from by rw [eF929]; exact uF_j (by decide)).trans ((show F881 (me) (0 : Int) = Fx (me) (0 : Int) from hM885 _ _ ho3.1 (own_z ho3.1) (by rw [ho3.2]; rfl)).trans (show Fx (me) (0 : Int) = F (me) (0 : Int) from hMx _ _ o_me (fun w => by have q1 := ho913.2; rw [w, ho914.2] at q1; exact absurd q1 (by decide)) (by rw [t_me]; rfl))))).trans e_pg)) (p_0 := by omega) (p_1 := by omega) (p_2 := by omega) (p_3 := by omega) (c_NP := c945)) (fun o V_q hq => ?_)
                obtain ⟨m1039, tg1039, ln1039, F1040, rfl, rfl, hx1041, hC1042, hM1043, p1044, p1045, p1046, p1047, p1048, p1049, p1050, c1051, c1052, -⟩ | ⟨m1053, tg1053, ln1053, F1053, x1053, rfl, rfl, hx1053, hC1053, hM1053, ho1053, ht1053, p1054, p1055, p1056, p1057, c1058, c1059, -⟩ := hq
                rotate_left
                ·
                  have c1060 : NM m m1053 tg1053 := NM_t c920 hx1053 c1059
                  have lm1061 := hx1053.1
                  refine Or.inr (Or.inr (Or.inr ⟨_, _, rfl, cx_exc (c := 15) ho1053 ht1053 (by decide), rfl, ?_⟩))
                  have q1062 : F942 (sc) (8 : Int) = F881 (sc) (8 : Int) := q1030
                  have q1063 : F942 (sc) (7 : Int) = F (sc) (7 : Int) := q1034
                  exact Or.inr ⟨m1053, tg1053, ln1053, F1053, x1053, rfl, rfl, Ex_t hX919 hx1053, hC1053, Fq_t (ln := ln) (ln1 := ln880) hM944 hX919 hM1053 (by decide) (Or.inr (Or.inl rfl)), (And.intro ho1053 ht1053).1, (And.intro ho1053 ht1053).2, by omega, by omega, by omega, by omega, c1058, c1060, trivial⟩
                have hM1064 : Fq pr [(7, 15), (9, 2), (10, 0), (10, 1), (10, 2), (10, 8), (11, 8), (11, 12), (11, 13), (11, 14), (11, 15), (11, 16), (11, 17), (11, 18)] m tg F F1040 := Fq_t (ln := ln) (ln1 := ln880) hM944 hX919 hM1043 (by decide) (Or.inr (Or.inl rfl))
                have lm1065 := hx1041.1
                have lt1066 : pr < 64 + (m880 : Int) := ho914.1.2.1
                have lt1067 : F (me) (2 : Int) < 64 + (m880 : Int) := by rcases y915 with w | w; (· omega); exact w.1.2.1
                have lt1068 : r882 < 64 + (m880 : Int) := b886.1.2.1
                have ho1069 : own m1039 (me) ∧ tg1039 (me) = 9 := Ex_o hx1041 ⟨ho913.1, ho913.2⟩
                have ho1070 : own m1039 (pr) ∧ tg1039 (pr) = 7 := Ex_o hx1041 ⟨ho914.1, ho914.2⟩
                have y1071 : F (me) (2 : Int) = 0 ∨ (own m1039 (F (me) (2 : Int)) ∧ tg1039 (F (me) (2 : Int)) = 7) := Ex_z hx1041 y915
                have ho1072 : own m1039 (r882) ∧ tg1039 (r882) = 7 := Ex_o hx1041 ⟨b886.1, b886.2⟩
                have ho1073 : own m1039 (sc) ∧ tg1039 (sc) = 11 := Ex_o hx1041 ⟨ho917.1, ho917.2⟩
                have ho1074 : own m1039 (pg) ∧ tg1039 (pg) = 10 := Ex_o hx1041 ⟨ho918.1, ho918.2⟩
                have hX1075 := Ex_t hX919 hx1041
                have c1076 : NM m m1039 tg1039 := NM_t c920 hx1041 c1052
                refine Or.inl ⟨rfl, ?_⟩
                refine jx_rt (v := none) rfl rfl rfl rfl rfl rfl ?_
                have q1077 : F1040 (sc) (7 : Int) = F (sc) (7 : Int) := ((show F1040 (sc) (7 : Int) = F942 (sc) (7 : Int) from hM1043 _ _ ho917.1 (own_z ho917.1) (by rw [ho917.2]; rfl)).trans q1034)
                have q1078 : F1040 (pg) (9 : Int) = F (pg) (9 : Int) := ((show F1040 (pg) (9 : Int) = F942 (pg) (9 : Int) from hM1043 _ _ ho918.1 (own_z ho918.1) (by rw [ho918.2]; rfl)).trans q1038)
                have q1079 := tz_b (F1040 (sc) (15 : Int))
                have q1080 := lz_b (F1040 (sc) (14 : Int))
                have q1081 : F1040 (pg) (9 : Int) = F (pg) (9 : Int) := q1078
                exact Or.inl ⟨m1039, tg1039, ln1039, F1040, rfl, rfl, hX1075, hC1042, hM1064, by omega, by omega, by omega, by omega, by omega, by omega, by omega, c1051, c1076, trivial⟩
          · have _q := h928
            exact absurd h928 (by have := ho916.1.1; omega)
        · have _q := h875
          refine jx_ld (pc_q := 29) (l_q := L) (st_q := [rv (me)]) rfl (jl_rvn gL_0) ?_
          refine cx_gr (pc_q := 32) (c := 8) (q := 1) (v := sc) rfl rfl (by decide) (by decide) rfl rfl ho3.1 ho3.2 ((show Fx (me) (1 : Int) = F (me) (1 : Int) from hMx _ _ o_me (fun w => by have q1 := ho3.2; rw [w, ho4.2] at q1; exact absurd q1 (by decide)) (by rw [t_me]; rfl)).trans e_sc) ?_
          refine cx_gi (pc_q := 35) (c := 10) (q := 15) (v := Fx (sc) (15 : Int)) rfl rfl (by decide) (by decide) (Or.inl rfl) rfl ho5.1 ho5.2 rfl ?_
          have b1082 : (-2147483648 : Int) ≤ Fx (sc) (15 : Int) ∧ Fx (sc) (15 : Int) ≤ 2147483647 := by have z := HC_i (c := 10) (q := 15) hCx ho5.1 ho5.2 (by decide) rfl; rw [show Fx (sc) ((15 : Nat) : Int) = Fx (sc) (15 : Int) from rfl] at z; exact z
          refine jx_ar (pc_q := 37) (st_q := [.int (i32 (55)), .int (i32 (Fx (sc) (15 : Int)))]) rfl rfl rfl rfl ?_
          refine jx_icmp_eq (pc_q := 40) (tg := 116) rfl rfl rfl (by omega) (by omega) (by decide) (by decide) (fun h1083 => ?_) (fun h1083 => ?_)
          · have _q := h1083
            have t1084 : tz (Fx (sc) (15 : Int)) = 1 := tz_p (by omega)
            refine jx_ld (pc_q := 117) (l_q := L) (st_q := [rv (me)]) rfl (jl_rvn gL_0) ?_
            refine jx_ar (pc_q := 119) (st_q := [.int (i32 (55)), rv (me)]) rfl rfl rfl rfl ?_
            have q1085 := tz_b (Fx (sc) (15 : Int))
            have q1086 : Fx (sc) (7 : Int) = F (sc) (7 : Int) := (show Fx (sc) (7 : Int) = F (sc) (7 : Int) from hMx _ _ o_sc (fun w => by have q1 := ho5.2; rw [w, ho4.2] at q1; exact absurd q1 (by decide)) (by rw [t_sc]; rfl))
            have q1087 := lz_b (Fx (sc) (14 : Int))
            have q1088 : Fx (pg) (9 : Int) = F (pg) (9 : Int) := (show Fx (pg) (9 : Int) = F (pg) (9 : Int) from hMx _ _ o_pg (fun w => by have q1 := ho6.2; rw [w, ho4.2] at q1; exact absurd q1 (by decide)) (by rw [t_pg]; rfl))
            refine cx_vi (c := 8) (a := me) (st := []) (as := [.int (i32 (55))]) rfl rfl rfl ho3.1 ho3.2 (by decide) rfl ⟨rfl, rfl, (Nat.le_of_ble_eq_true rfl)⟩ rfl (k_LParser_expect (dd := d) (R := R) (m := mx) (tg := tgx) (ln := lnx) (F := Fx) (me := me) (tk := 55) (hd := by omega) (hC := hCx) (o_me := ho3.1) (t_me := ho3.2) (h_tk := by omega) (sc := sc) (pg := pg) (o_sc := ho5.1) (t_sc := ho5.2) (e_sc := ((show Fx (me) (1 : Int) = F (me) (1 : Int) from hMx _ _ o_me (fun w => by have q1 := ho3.2; rw [w, ho4.2] at q1; exact absurd q1 (by decide)) (by rw [t_me]; rfl)).trans e_sc)) (o_pg := ho6.1) (t_pg := ho6.2) (e_pg := ((show Fx (me) (0 : Int) = F (me) (0 : Int) from hMx _ _ o_me (fun w => by have q1 := ho3.2; rw [w, ho4.2] at q1; exact absurd q1 (by decide)) (by rw [t_me]; rfl)).trans e_pg)) (p_0 := by omega) (p_1 := by omega) (p_2 := by omega) (p_3 := by omega) (c_NP := cx_NP)) (fun o V_q hq => ?_)
            obtain ⟨m1089, tg1089, ln1089, F1090, rfl, rfl, hx1091, hC1092, hM1093, p1094, p1095, p1096, p1097, p1098, p1099, p1100, c1101, c1102, -⟩ | ⟨m1103, tg1103, ln1103, F1103, x1103, rfl, rfl, hx1103, hC1103, hM1103, ho1103, ht1103, p1104, p1105, p1106, p1107, c1108, c1109, -⟩ := hq
            rotate_left
            ·
              have c1110 : NM m m1103 tg1103 := NM_t cx_NM hx1103 c1109
              have lm1111 := hx1103.1
              refine Or.inr (Or.inr (Or.inr ⟨_, _, rfl, cx_exc (c := 15) ho1103 ht1103 (by decide), rfl, ?_⟩))
              have q1112 : Fx (sc) (7 : Int) = F (sc) (7 : Int) := (show Fx (sc) (7 : Int) = F (sc) (7 : Int) from hMx _ _ o_sc (fun w => by have q1 := ho5.2; rw [w, ho4.2] at q1; exact absurd q1 (by decide)) (by rw [t_sc]; rfl))
              exact Or.inr ⟨m1103, tg1103, ln1103, F1103, x1103, rfl, rfl, Ex_t hXx hx1103, hC1103, Fq_t (ln := ln) (ln1 := lnx) hMx hXx hM1103 (by decide) (Or.inr (Or.inl rfl)), (And.intro ho1103 ht1103).1, (And.intro ho1103 ht1103).2, by omega, by omega, by omega, by omega, c1108, c1110, trivial⟩
            have hM1113 : Fq pr [(7, 15), (9, 2), (10, 0), (10, 1), (10, 2), (10, 8), (11, 8), (11, 12), (11, 13), (11, 14), (11, 15), (11, 16), (11, 17), (11, 18)] m tg F F1090 := Fq_t (ln := ln) (ln1 := lnx) hMx hXx hM1093 (by decide) (Or.inr (Or.inl rfl))
            have lm1114 := hx1091.1
            have lt1115 : pr < 64 + (mx : Int) := ho4.1.2.1
            have lt1116 : F (me) (2 : Int) < 64 + (mx : Int) := by rcases y8 with w | w; (· omega); exact w.1.2.1
            have lt1117 : la < 64 + (mx : Int) := ho827.1.2.1
            have ho1118 : own m1089 (me) ∧ tg1089 (me) = 9 := Ex_o hx1091 ⟨ho3.1, ho3.2⟩
            have ho1119 : own m1089 (pr) ∧ tg1089 (pr) = 7 := Ex_o hx1091 ⟨ho4.1, ho4.2⟩
            have y1120 : F (me) (2 : Int) = 0 ∨ (own m1089 (F (me) (2 : Int)) ∧ tg1089 (F (me) (2 : Int)) = 7) := Ex_z hx1091 y8
            have ho1121 : own m1089 (la) ∧ tg1089 (la) = 7 := Ex_o hx1091 ⟨ho827.1, ho827.2⟩
            have ho1122 : own m1089 (sc) ∧ tg1089 (sc) = 11 := Ex_o hx1091 ⟨ho5.1, ho5.2⟩
            have ho1123 : own m1089 (pg) ∧ tg1089 (pg) = 10 := Ex_o hx1091 ⟨ho6.1, ho6.2⟩
            have hX1124 := Ex_t hXx hx1091
            have c1125 : NM m m1089 tg1089 := NM_t cx_NM hx1091 c1102
            refine Or.inl ⟨rfl, ?_⟩
            refine jx_rt (v := none) rfl rfl rfl rfl rfl rfl ?_
            have q1126 : F1090 (sc) (7 : Int) = F (sc) (7 : Int) := ((show F1090 (sc) (7 : Int) = Fx (sc) (7 : Int) from hM1093 _ _ ho5.1 (own_z ho5.1) (by rw [ho5.2]; rfl)).trans (show Fx (sc) (7 : Int) = F (sc) (7 : Int) from hMx _ _ o_sc (fun w => by have q1 := ho1122.2; rw [w, ho1119.2] at q1; exact absurd q1 (by decide)) (by rw [t_sc]; rfl)))
            have q1127 : F1090 (pg) (9 : Int) = F (pg) (9 : Int) := ((show F1090 (pg) (9 : Int) = Fx (pg) (9 : Int) from hM1093 _ _ ho6.1 (own_z ho6.1) (by rw [ho6.2]; rfl)).trans (show Fx (pg) (9 : Int) = F (pg) (9 : Int) from hMx _ _ o_pg (fun w => by have q1 := ho1123.2; rw [w, ho1119.2] at q1; exact absurd q1 (by decide)) (by rw [t_pg]; rfl)))
            have q1128 := tz_b (F1090 (sc) (15 : Int))
            have q1129 := lz_b (F1090 (sc) (14 : Int))
            have q1130 : F1090 (pg) (9 : Int) = F (pg) (9 : Int) := q1127
            exact Or.inl ⟨m1089, tg1089, ln1089, F1090, rfl, rfl, hX1124, hC1092, hM1113, by omega, by omega, by omega, by omega, by omega, by omega, by omega, c1101, c1125, trivial⟩
          · have _q := h1083
            refine jx_ld (pc_q := 41) (l_q := L) (st_q := [rv (me)]) rfl (jl_rvn gL_0) ?_
            refine jx_ld (pc_q := 42) (l_q := L) (st_q := [rv (F (me) (2 : Int)), rv (me)]) rfl (jl_rvn gL_2) ?_
            have q1131 := tz_b (Fx (sc) (15 : Int))
            have q1132 : Fx (sc) (7 : Int) = F (sc) (7 : Int) := (show Fx (sc) (7 : Int) = F (sc) (7 : Int) from hMx _ _ o_sc (fun w => by have q1 := ho5.2; rw [w, ho4.2] at q1; exact absurd q1 (by decide)) (by rw [t_sc]; rfl))
            have q1133 := lz_b (Fx (sc) (14 : Int))
            have q1134 : Fx (pg) (9 : Int) = F (pg) (9 : Int) := (show Fx (pg) (9 : Int) = F (pg) (9 : Int) from hMx _ _ o_pg (fun w => by have q1 := ho6.2; rw [w, ho4.2] at q1; exact absurd q1 (by decide)) (by rw [t_pg]; rfl))
            refine cx_vi (c := 8) (a := me) (st := []) (as := [rv (F (me) (2 : Int))]) rfl rfl rfl ho3.1 ho3.2 (by decide) rfl ⟨rfl, rfl, (Nat.le_of_ble_eq_true rfl)⟩ rfl (k_LParser_readParameter (dd := d) (R := R) (m := mx) (tg := tgx) (ln := lnx) (F := Fx) (me := me) (bf := F (me) (2 : Int)) (hd := by omega) (hC := hCx) (o_me := ho3.1) (t_me := ho3.2) (y_bf := y8) (sc := sc) (pg := pg) (o_sc := ho5.1) (t_sc := ho5.2) (e_sc := ((show Fx (me) (1 : Int) = F (me) (1 : Int) from hMx _ _ o_me (fun w => by have q1 := ho3.2; rw [w, ho4.2] at q1; exact absurd q1 (by decide)) (by rw [t_me]; rfl)).trans e_sc)) (o_pg := ho6.1) (t_pg := ho6.2) (e_pg := ((show Fx (me) (0 : Int) = F (me) (0 : Int) from hMx _ _ o_me (fun w => by have q1 := ho3.2; rw [w, ho4.2] at q1; exact absurd q1 (by decide)) (by rw [t_me]; rfl)).trans e_pg)) (p_0 := by omega) (p_1 := by omega) (p_2 := by omega) (c_NP := cx_NP)) (fun o V_q hq => ?_)
            obtain ⟨m1135, tg1135, ln1135, F1136, r1137, rfl, rfl, hx1138, hC1139, hM1140, b1141, p1142, p1143, p1144, p1145, p1146, p1147, p1148, p1149, p1150, c1151, c1152, -⟩ | ⟨m1153, tg1153, ln1153, F1153, x1153, rfl, rfl, hx1153, hC1153, hM1153, ho1153, ht1153, p1154, p1155, p1156, p1157, c1158, c1159, -⟩ := hq
            rotate_left
            ·
              have c1160 : NM m m1153 tg1153 := NM_t cx_NM hx1153 c1159
              have lm1161 := hx1153.1
              refine Or.inr (Or.inr (Or.inr ⟨_, _, rfl, cx_exc (c := 15) ho1153 ht1153 (by decide), rfl, ?_⟩))
              have q1162 : Fx (sc) (7 : Int) = F (sc) (7 : Int) := (show Fx (sc) (7 : Int) = F (sc) (7 : Int) from hMx _ _ o_sc (fun w => by have q1 := ho5.2; rw [w, ho4.2] at q1; exact absurd q1 (by decide)) (by rw [t_sc]; rfl))
              exact Or.inr ⟨m1153, tg1153, ln1153, F1153, x1153, rfl, rfl, Ex_t hXx hx1153, hC1153, Fq_t (ln := ln) (ln1 := lnx) hMx hXx hM1153 (by decide) (Or.inr (Or.inl rfl)), (And.intro ho1153 ht1153).1, (And.intro ho1153 ht1153).2, by omega, by omega, by omega, by omega, c1158, c1160, trivial⟩
            have hM1163 : Fq pr [(7, 15), (9, 2), (10, 0), (10, 1), (10, 2), (10, 8), (11, 8), (11, 12), (11, 13), (11, 14), (11, 15), (11, 16), (11, 17), (11, 18)] m tg F F1136 := Fq_t (ln := ln) (ln1 := lnx) hMx hXx hM1140 (by decide) (Or.inr (Or.inl rfl))
            have lm1164 := hx1138.1
            have lt1165 : pr < 64 + (mx : Int) := ho4.1.2.1
            have lt1166 : F (me) (2 : Int) < 64 + (mx : Int) := by rcases y8 with w | w; (· omega); exact w.1.2.1
            have lt1167 : la < 64 + (mx : Int) := ho827.1.2.1
            have ho1168 : own m1135 (me) ∧ tg1135 (me) = 9 := Ex_o hx1138 ⟨ho3.1, ho3.2⟩
            have ho1169 : own m1135 (pr) ∧ tg1135 (pr) = 7 := Ex_o hx1138 ⟨ho4.1, ho4.2⟩
            have y1170 : F (me) (2 : Int) = 0 ∨ (own m1135 (F (me) (2 : Int)) ∧ tg1135 (F (me) (2 : Int)) = 7) := Ex_z hx1138 y8
            have ho1171 : own m1135 (la) ∧ tg1135 (la) = 7 := Ex_o hx1138 ⟨ho827.1, ho827.2⟩
            have ho1172 : own m1135 (sc) ∧ tg1135 (sc) = 11 := Ex_o hx1138 ⟨ho5.1, ho5.2⟩
            have ho1173 : own m1135 (pg) ∧ tg1135 (pg) = 10 := Ex_o hx1138 ⟨ho6.1, ho6.2⟩
            have hX1174 := Ex_t hXx hx1138
            have c1175 : NM m m1135 tg1135 := NM_t cx_NM hx1138 c1152
            refine Or.inr (Or.inl ⟨_, rfl, ?_⟩)
            refine jx_ld (pc_q := 47) (l_q := jSto1 L 5 (rv (r1137))) (st_q := []) rfl (js_rv (by decide)) ?_
            obtain ⟨L1176, eL1176⟩ : ∃ q : jL, q = jSto1 L 5 (rv (r1137)) := ⟨_, rfl⟩
            rw [← eL1176]
            have g1177 : jGet L1176 0 = some (rv (me)) := eL1176 ▸ jg_nr (by decide) gL_0
            have g1178 : jGet L1176 1 = some (rv (pr)) := eL1176 ▸ jg_nr (by decide) gL_1
            have g1179 : jGet L1176 2 = some (rv (F (me) (2 : Int))) := eL1176 ▸ jg_nr (by decide) gL_2
            have g1180 : jGet L1176 4 = some (.int (i32 (k))) := eL1176 ▸ jg_ne (by decide) gL_4 rfl
            have g1181 : jGet L1176 3 = some (rv (la)) := eL1176 ▸ jg_nr (by decide) gL_3
            have g1182 : jGet L1176 5 = some (rv (r1137)) := eL1176 ▸ jg_eq
            clear eL1176
            refine jx_ld (pc_q := 48) (l_q := L1176) (st_q := [rv (la)]) rfl (jl_rvn g1181) ?_
            refine cx_non (pc_q := 51) (tg_q := 60) rfl rfl rfl (fun h1183 => ?_) (fun h1183 => ?_)
            · have _q := h1183
              refine jx_ld (pc_q := 61) (l_q := L1176) (st_q := [rv (la)]) rfl (jl_rvn g1181) ?_
              refine jx_ld (pc_q := 63) (l_q := L1176) (st_q := [rv (r1137), rv (la)]) rfl (jl_rv g1182) ?_
              refine cx_po (pc_q := 66) (c := 6) (q := 14) (qi := (14 : Int)) (z := r1137) rfl rfl (by decide) (by decide) rfl rfl rfl (by decide) rfl ho1171.1 ho1171.2 rfl ?_
              obtain ⟨F1184, eF1184⟩ : ∃ q, q = uF F1136 (la) (14 : Int) (r1137) := ⟨_, rfl⟩
              rw [← eF1184]
              have hC1185 : HC 0 m1135 tg1135 ln1135 F1184 := by rw [eF1184]; exact HC_fr (c := 6) (q := 14) (by decide) hC1139 ho1171.2 (by decide) rfl (Or.inr ⟨b1141.1, b1141.2⟩) ⟨fun w => absurd w (by decide), fun w => absurd w (by decide)⟩
              have hM1186 : Fq pr [(7, 15), (9, 2), (10, 0), (10, 1), (10, 2), (10, 8), (11, 8), (11, 12), (11, 13), (11, 14), (11, 15), (11, 16), (11, 17), (11, 18)] m tg F F1184 := by rw [eF1184]; exact Fq_x hM1163 (Or.inr (by omega))
              have c1187 : NP m1135 tg1135 F1184 := by rw [eF1184]; exact NP_nm hC1139 c1151 ho1171.2 (Or.inl ⟨rfl, (by rw [show F1136 (la) (14 : Int) = Fx (la) (14 : Int) from (show F1136 (la) (14 : Int) = Fx (la) (14 : Int) from hM1140 _ _ ho827.1 (own_z ho827.1) (by rw [ho827.2]; rfl))]; omega), by omega⟩)
              refine jx_ld (pc_q := 68) (l_q := L1176) (st_q := [rv (r1137)]) rfl (jl_rv g1182) ?_
              refine jx_ld (pc_q := 69) (l_q := jSto1 L1176 3 (rv (r1137))) (st_q := []) rfl (js_rvn (by decide)) ?_
              obtain ⟨L1188, eL1188⟩ : ∃ q : jL, q = jSto1 L1176 3 (rv (r1137)) := ⟨_, rfl⟩
              rw [← eL1188]
              have g1189 : jGet L1188 0 = some (rv (me)) := eL1188 ▸ jg_nr (by decide) g1177
              have g1190 : jGet L1188 1 = some (rv (pr)) := eL1188 ▸ jg_nr (by decide) g1178
              have g1191 : jGet L1188 2 = some (rv (F (me) (2 : Int))) := eL1188 ▸ jg_nr (by decide) g1179
              have g1192 : jGet L1188 4 = some (.int (i32 (k))) := eL1188 ▸ jg_ne (by decide) g1180 rfl
              have g1193 : jGet L1188 5 = some (rv (r1137)) := eL1188 ▸ jg_nr (by decide) g1182
              have g1194 : jGet L1188 3 = some (rv (r1137)) := eL1188 ▸ jg_eq
              clear eL1188
              refine jx_ld (pc_q := 70) (l_q := L1188) (st_q := [rv (pr)]) rfl (jl_rvn g1190) ?_
              refine jx_ar (pc_q := 71) (st_q := [rv (pr), rv (pr)]) rfl rfl ja_dup rfl ?_
              refine cx_gi (pc_q := 74) (c := 6) (q := 8) (v := Fx (pr) (8 : Int)) rfl rfl (by decide) (by decide) (Or.inl rfl) rfl ho1169.1 ho1169.2 ((show F1184 (pr) (8 : Int) = F1136 (pr) (8 : Int) from by rw [eF1184]; exact uF_j (by decide)).trans (show F1136 (pr) (8 : Int) = Fx (pr) (8 : Int) from hM1140 _ _ ho4.1 (own_z ho4.1) (by rw [ho4.2]; rfl))) ?_
              have b1195 : (-2147483648 : Int) ≤ Fx (pr) (8 : Int) ∧ Fx (pr) (8 : Int) ≤ 2147483647 := by have z := HC_i (c := 6) (q := 8) hC1185 ho1169.1 ho1169.2 (by decide) rfl; rw [show F1184 (pr) ((8 : Nat) : Int) = Fx (pr) (8 : Int) from ((show F1184 (pr) (8 : Int) = F1136 (pr) (8 : Int) from by rw [eF1184]; exact uF_j (by decide)).trans (show F1136 (pr) (8 : Int) = Fx (pr) (8 : Int) from hM1140 _ _ ho4.1 (own_z ho4.1) (by rw [ho4.2]; rfl)))] at z; exact z
              refine jx_ar (pc_q := 75) (st_q := [.int (i32 (1)), .int (i32 (Fx (pr) (8 : Int))), rv (pr)]) rfl rfl rfl rfl ?_
              refine jx_add (pc_q := 76) rfl rfl ?_
              obtain ⟨z1196, ez1196⟩ : ∃ q, q = (i32 ((Fx (pr) (8 : Int) + 1))).toInt := ⟨_, rfl⟩
              have bz1196 : (-2147483648 : Int) ≤ z1196 ∧ z1196 ≤ 2147483647 := ez1196 ▸ i32_rg _
              rw [show i32 ((Fx (pr) (8 : Int) + 1)) = i32 z1196 by rw [ez1196, i32_of]]
              clear ez1196
              refine cx_pi (pc_q := 79) (c := 6) (q := 8) (qi := (8 : Int)) (z := z1196) rfl rfl (by decide) (by decide) rfl rfl rfl (by decide) rfl ho1169.1 ho1169.2 rfl ?_
              obtain ⟨F1197, eF1197⟩ : ∃ q, q = uF F1184 (pr) (8 : Int) (z1196) := ⟨_, rfl⟩
              rw [← eF1197]
              have hC1198 : HC 0 m1135 tg1135 ln1135 F1197 := by rw [eF1197]; exact HC_fi (c := 6) (q := 8) hC1185 ho1169.2 (by decide) rfl (by omega) (by omega) ⟨fun w => absurd w (by decide), fun w => absurd w (by decide)⟩
              have hM1199 : Fq pr [(7, 15), (9, 2), (10, 0), (10, 1), (10, 2), (10, 8), (11, 8), (11, 12), (11, 13), (11, 14), (11, 15), (11, 16), (11, 17), (11, 18)] m tg F F1197 := by rw [eF1197]; exact Fq_x hM1186 (Or.inl rfl)
              have c1200 : NP m1135 tg1135 F1197 := by rw [eF1197]; exact NP_u hC1185 c1187 ho1169.2 (by omega)
              refine jx_ld (pc_q := 80) (l_q := L1188) (st_q := [rv (me)]) rfl (jl_rvn g1189) ?_
              refine cx_gr (pc_q := 83) (c := 8) (q := 1) (v := sc) rfl rfl (by decide) (by decide) rfl rfl ho1168.1 ho1168.2 (((show F1197 (me) (1 : Int) = F1184 (me) (1 : Int) from by rw [eF1197]; exact uF_j (by decide)).trans ((show F1184 (me) (1 : Int) = F1136 (me) (1 : Int) from by rw [eF1184]; exact uF_j (by decide)).trans ((show F1136 (me) (1 : Int) = Fx (me) (1 : Int) from hM1140 _ _ ho3.1 (own_z ho3.1) (by rw [ho3.2]; rfl)).trans (show Fx (me) (1 : Int) = F (me) (1 : Int) from hMx _ _ o_me (fun w => by have q1 := ho1168.2; rw [w, ho1169.2] at q1; exact absurd q1 (by decide)) (by rw [t_me]; rfl))))).trans e_sc) ?_
              refine cx_gi (pc_q := 86) (c := 10) (q := 15) (v := F1136 (sc) (15 : Int)) rfl rfl (by decide) (by decide) (Or.inl rfl) rfl ho1172.1 ho1172.2 ((show F1197 (sc) (15 : Int) = F1184 (sc) (15 : Int) from by rw [eF1197]; exact uF_j (by decide)).trans (show F1184 (sc) (15 : Int) = F1136 (sc) (15 : Int) from by rw [eF1184]; exact uF_j (by decide))) ?_
              have b1201 : (-2147483648 : Int) ≤ F1136 (sc) (15 : Int) ∧ F1136 (sc) (15 : Int) ≤ 2147483647 := by have z := HC_i (c := 10) (q := 15) hC1198 ho1172.1 ho1172.2 (by decide) rfl; rw [show F1197 (sc) ((15 : Nat) : Int) = F1136 (sc) (15 : Int) from ((show F1197 (sc) (15 : Int) = F1184 (sc) (15 : Int) from by rw [eF1197]; exact uF_j (by decide)).trans (show F1184 (sc) (15 : Int) = F1136 (sc) (15 : Int) from by rw [eF1184]; exact uF_j (by decide)))] at z; exact z
              refine jx_ar (pc_q := 88) (st_q := [.int (i32 (52)), .int (i32 (F1136 (sc) (15 : Int)))]) rfl rfl rfl rfl ?_
              refine jx_icmp_ne (pc_q := 91) (tg := 116) rfl rfl rfl (by omega) (by omega) (by decide) (by decide) (fun h1202 => ?_) (fun h1202 => ?_)
              · have _q := h1202
                refine jx_ld (pc_q := 117) (l_q := L1188) (st_q := [rv (me)]) rfl (jl_rvn g1189) ?_
                refine jx_ar (pc_q := 119) (st_q := [.int (i32 (55)), rv (me)]) rfl rfl rfl rfl ?_
                have q1203 : F1197 (sc) (8 : Int) = F1136 (sc) (8 : Int) := ((show F1197 (sc) (8 : Int) = F1184 (sc) (8 : Int) from by rw [eF1197]; exact uF_a (fun w => by have q1 := ho1172.2; have q2 := ho1169.2; rw [w, q2] at q1; exact absurd q1 (by decide))).trans (show F1184 (sc) (8 : Int) = F1136 (sc) (8 : Int) from by rw [eF1184]; exact uF_j (by decide)))
                have q1204 : F1197 (sc) (15 : Int) = F1136 (sc) (15 : Int) := ((show F1197 (sc) (15 : Int) = F1184 (sc) (15 : Int) from by rw [eF1197]; exact uF_j (by decide)).trans (show F1184 (sc) (15 : Int) = F1136 (sc) (15 : Int) from by rw [eF1184]; exact uF_j (by decide)))
                have q1205 : tz (F1197 (sc) (15 : Int)) = tz (F1136 (sc) (15 : Int)) := by rw [q1204]
                have q1206 := tz_b (F1136 (sc) (15 : Int))
                have q1207 : F1197 (sc) (7 : Int) = F (sc) (7 : Int) := ((show F1197 (sc) (7 : Int) = F1184 (sc) (7 : Int) from by rw [eF1197]; exact uF_j (by decide)).trans ((show F1184 (sc) (7 : Int) = F1136 (sc) (7 : Int) from by rw [eF1184]; exact uF_j (by decide)).trans ((show F1136 (sc) (7 : Int) = Fx (sc) (7 : Int) from hM1140 _ _ ho5.1 (own_z ho5.1) (by rw [ho5.2]; rfl)).trans (show Fx (sc) (7 : Int) = F (sc) (7 : Int) from hMx _ _ o_sc (fun w => by have q1 := ho1172.2; rw [w, ho1169.2] at q1; exact absurd q1 (by decide)) (by rw [t_sc]; rfl)))))
                have q1208 : F1197 (sc) (14 : Int) = F1136 (sc) (14 : Int) := ((show F1197 (sc) (14 : Int) = F1184 (sc) (14 : Int) from by rw [eF1197]; exact uF_j (by decide)).trans (show F1184 (sc) (14 : Int) = F1136 (sc) (14 : Int) from by rw [eF1184]; exact uF_a (fun w => by have q1 := ho1172.2; have q2 := ho1171.2; rw [w, q2] at q1; exact absurd q1 (by decide))))
                have q1209 : lz (F1197 (sc) (14 : Int)) = lz (F1136 (sc) (14 : Int)) := by rw [q1208]
                have q1210 := lz_b (F1136 (sc) (14 : Int))
                have q1211 : F1197 (pg) (9 : Int) = F (pg) (9 : Int) := ((show F1197 (pg) (9 : Int) = F1184 (pg) (9 : Int) from by rw [eF1197]; exact uF_j (by decide)).trans ((show F1184 (pg) (9 : Int) = F1136 (pg) (9 : Int) from by rw [eF1184]; exact uF_j (by decide)).trans ((show F1136 (pg) (9 : Int) = Fx (pg) (9 : Int) from hM1140 _ _ ho6.1 (own_z ho6.1) (by rw [ho6.2]; rfl)).trans (show Fx (pg) (9 : Int) = F (pg) (9 : Int) from hMx _ _ o_pg (fun w => by have q1 := ho1173.2; rw [w, ho1169.2] at q1; exact absurd q1 (by decide)) (by rw [t_pg]; rfl)))))
                refine cx_vi (c := 8) (a := me) (st := []) (as := [.int (i32 (55))]) rfl rfl rfl ho1168.1 ho1168.2 (by decide) rfl ⟨rfl, rfl, (Nat.le_of_ble_eq_true rfl)⟩ rfl (k_LParser_expect (dd := d) (R := R) (m := m1135) (tg := tg1135) (ln := ln1135) (F := F1197) (me := me) (tk := 55) (hd := by omega) (hC := hC1198) (o_me := ho1168.1) (t_me := ho1168.2) (h_tk := by omega) (sc := sc) (pg := pg) (o_sc := ho1172.1) (t_sc := ho1172.2) (e_sc := (((show F1197 (me) (1 : Int) = F1184 (me) (1 : Int) from by rw [eF1197]; exact uF_j (by decide)).trans ((show F1184 (me) (1 : Int) = F1136 (me) (1 : Int) from by rw [eF1184]; exact uF_j (by decide)).trans ((show F1136 (me) (1 : Int) = Fx (me) (1 : Int) from hM1140 _ _ ho3.1 (own_z ho3.1) (by rw [ho3.2]; rfl)).trans (show Fx (me) (1 : Int) = F (me) (1 : Int) from hMx _ _ o_me (fun w => by have q1 := ho1168.2; rw [w, ho1169.2] at q1; exact absurd q1 (by decide)) (by rw [t_me]; rfl))))).trans e_sc)) (o_pg := ho1173.1) (t_pg := ho1173.2) (e_pg := (((show F1197 (me) (0 : Int) = F1184 (me) (0 : Int) from by rw [eF1197]; exact uF_j (by decide)).trans ((show F1184 (me) (0 : Int) = F1136 (me) (0 : Int) from by rw [eF1184]; exact uF_j (by decide)).trans ((show F1136 (me) (0 : Int) = Fx (me) (0 : Int) from hM1140 _ _ ho3.1 (own_z ho3.1) (by rw [ho3.2]; rfl)).trans (show Fx (me) (0 : Int) = F (me) (0 : Int) from hMx _ _ o_me (fun w => by have q1 := ho1168.2; rw [w, ho1169.2] at q1; exact absurd q1 (by decide)) (by rw [t_me]; rfl))))).trans e_pg)) (p_0 := by omega) (p_1 := by omega) (p_2 := by omega) (p_3 := by omega) (c_NP := c1200)) (fun o V_q hq => ?_)
                obtain ⟨m1212, tg1212, ln1212, F1213, rfl, rfl, hx1214, hC1215, hM1216, p1217, p1218, p1219, p1220, p1221, p1222, p1223, c1224, c1225, -⟩ | ⟨m1226, tg1226, ln1226, F1226, x1226, rfl, rfl, hx1226, hC1226, hM1226, ho1226, ht1226, p1227, p1228, p1229, p1230, c1231, c1232, -⟩ := hq
                rotate_left
                ·
                  have c1233 : NM m m1226 tg1226 := NM_t c1175 hx1226 c1232
                  have lm1234 := hx1226.1
                  refine Or.inr (Or.inr (Or.inr ⟨_, _, rfl, cx_exc (c := 15) ho1226 ht1226 (by decide), rfl, ?_⟩))
                  have q1235 : F1197 (sc) (8 : Int) = F1136 (sc) (8 : Int) := q1203
                  have q1236 : F1197 (sc) (7 : Int) = F (sc) (7 : Int) := q1207
                  exact Or.inr ⟨m1226, tg1226, ln1226, F1226, x1226, rfl, rfl, Ex_t hX1174 hx1226, hC1226, Fq_t (ln := ln) (ln1 := ln1135) hM1199 hX1174 hM1226 (by decide) (Or.inr (Or.inl rfl)), (And.intro ho1226 ht1226).1, (And.intro ho1226 ht1226).2, by omega, by omega, by omega, by omega, c1231, c1233, trivial⟩
                have hM1237 : Fq pr [(7, 15), (9, 2), (10, 0), (10, 1), (10, 2), (10, 8), (11, 8), (11, 12), (11, 13), (11, 14), (11, 15), (11, 16), (11, 17), (11, 18)] m tg F F1213 := Fq_t (ln := ln) (ln1 := ln1135) hM1199 hX1174 hM1216 (by decide) (Or.inr (Or.inl rfl))
                have lm1238 := hx1214.1
                have lt1239 : pr < 64 + (m1135 : Int) := ho1169.1.2.1
                have lt1240 : F (me) (2 : Int) < 64 + (m1135 : Int) := by rcases y1170 with w | w; (· omega); exact w.1.2.1
                have lt1241 : r1137 < 64 + (m1135 : Int) := b1141.1.2.1
                have ho1242 : own m1212 (me) ∧ tg1212 (me) = 9 := Ex_o hx1214 ⟨ho1168.1, ho1168.2⟩
                have ho1243 : own m1212 (pr) ∧ tg1212 (pr) = 7 := Ex_o hx1214 ⟨ho1169.1, ho1169.2⟩
                have y1244 : F (me) (2 : Int) = 0 ∨ (own m1212 (F (me) (2 : Int)) ∧ tg1212 (F (me) (2 : Int)) = 7) := Ex_z hx1214 y1170
                have ho1245 : own m1212 (r1137) ∧ tg1212 (r1137) = 7 := Ex_o hx1214 ⟨b1141.1, b1141.2⟩
                have ho1246 : own m1212 (sc) ∧ tg1212 (sc) = 11 := Ex_o hx1214 ⟨ho1172.1, ho1172.2⟩
                have ho1247 : own m1212 (pg) ∧ tg1212 (pg) = 10 := Ex_o hx1214 ⟨ho1173.1, ho1173.2⟩
                have hX1248 := Ex_t hX1174 hx1214
                have c1249 : NM m m1212 tg1212 := NM_t c1175 hx1214 c1225
                refine Or.inl ⟨rfl, ?_⟩
                refine jx_rt (v := none) rfl rfl rfl rfl rfl rfl ?_
                have q1250 : F1213 (sc) (7 : Int) = F (sc) (7 : Int) := ((show F1213 (sc) (7 : Int) = F1197 (sc) (7 : Int) from hM1216 _ _ ho1172.1 (own_z ho1172.1) (by rw [ho1172.2]; rfl)).trans q1207)
                have q1251 : F1213 (pg) (9 : Int) = F (pg) (9 : Int) := ((show F1213 (pg) (9 : Int) = F1197 (pg) (9 : Int) from hM1216 _ _ ho1173.1 (own_z ho1173.1) (by rw [ho1173.2]; rfl)).trans q1211)
                have q1252 := tz_b (F1213 (sc) (15 : Int))
                have q1253 := lz_b (F1213 (sc) (14 : Int))
                have q1254 : F1213 (pg) (9 : Int) = F (pg) (9 : Int) := q1251
                exact Or.inl ⟨m1212, tg1212, ln1212, F1213, rfl, rfl, hX1248, hC1215, hM1237, by omega, by omega, by omega, by omega, by omega, by omega, by omega, c1224, c1249, trivial⟩
              · have _q := h1202
                have t1255 : tz (F1136 (sc) (15 : Int)) = 1 := tz_p (by omega)
                refine jx_ld (pc_q := 92) (l_q := L1188) (st_q := [rv (pr)]) rfl (jl_rvn g1190) ?_
                refine cx_gi (pc_q := 95) (c := 6) (q := 8) (v := z1196) rfl rfl (by decide) (by decide) (Or.inl rfl) rfl ho1169.1 ho1169.2 (show F1197 (pr) (8 : Int) = z1196 from by rw [eF1197]; exact uF_e) ?_
                refine jx_ar (pc_q := 97) (st_q := [.int (i32 (6)), .int (i32 (z1196))]) rfl rfl rfl rfl ?_
                refine jx_icmp_ne (pc_q := 100) (tg := 103) rfl rfl rfl (by omega) (by omega) (by decide) (by decide) (fun h1256 => ?_) (fun h1256 => ?_)
                · have _q := h1256
                  refine jx_ld (pc_q := 104) (l_q := L1188) (st_q := [rv (me)]) rfl (jl_rvn g1189) ?_
                  refine cx_gr (pc_q := 107) (c := 8) (q := 1) (v := sc) rfl rfl (by decide) (by decide) rfl rfl ho1168.1 ho1168.2 (((show F1197 (me) (1 : Int) = F1184 (me) (1 : Int) from by rw [eF1197]; exact uF_j (by decide)).trans ((show F1184 (me) (1 : Int) = F1136 (me) (1 : Int) from by rw [eF1184]; exact uF_j (by decide)).trans ((show F1136 (me) (1 : Int) = Fx (me) (1 : Int) from hM1140 _ _ ho3.1 (own_z ho3.1) (by rw [ho3.2]; rfl)).trans (show Fx (me) (1 : Int) = F (me) (1 : Int) from hMx _ _ o_me (fun w => by have q1 := ho1168.2; rw [w, ho1169.2] at q1; exact absurd q1 (by decide)) (by rw [t_me]; rfl))))).trans e_sc) ?_
                  have q1257 : F1197 (sc) (8 : Int) = F1136 (sc) (8 : Int) := ((show F1197 (sc) (8 : Int) = F1184 (sc) (8 : Int) from by rw [eF1197]; exact uF_a (fun w => by have q1 := ho1172.2; have q2 := ho1169.2; rw [w, q2] at q1; exact absurd q1 (by decide))).trans (show F1184 (sc) (8 : Int) = F1136 (sc) (8 : Int) from by rw [eF1184]; exact uF_j (by decide)))
                  have q1258 : F1197 (sc) (15 : Int) = F1136 (sc) (15 : Int) := ((show F1197 (sc) (15 : Int) = F1184 (sc) (15 : Int) from by rw [eF1197]; exact uF_j (by decide)).trans (show F1184 (sc) (15 : Int) = F1136 (sc) (15 : Int) from by rw [eF1184]; exact uF_j (by decide)))
                  have q1259 : tz (F1197 (sc) (15 : Int)) = tz (F1136 (sc) (15 : Int)) := by rw [q1258]
                  have q1260 := tz_b (F1136 (sc) (15 : Int))
                  have q1261 : F1197 (sc) (7 : Int) = F (sc) (7 : Int) := ((show F1197 (sc) (7 : Int) = F1184 (sc) (7 : Int) from by rw [eF1197]; exact uF_j (by decide)).trans ((show F1184 (sc) (7 : Int) = F1136 (sc) (7 : Int) from by rw [eF1184]; exact uF_j (by decide)).trans ((show F1136 (sc) (7 : Int) = Fx (sc) (7 : Int) from hM1140 _ _ ho5.1 (own_z ho5.1) (by rw [ho5.2]; rfl)).trans (show Fx (sc) (7 : Int) = F (sc) (7 : Int) from hMx _ _ o_sc (fun w => by have q1 := ho1172.2; rw [w, ho1169.2] at q1; exact absurd q1 (by decide)) (by rw [t_sc]; rfl)))))
                  have q1262 : F1197 (sc) (14 : Int) = F1136 (sc) (14 : Int) := ((show F1197 (sc) (14 : Int) = F1184 (sc) (14 : Int) from by rw [eF1197]; exact uF_j (by decide)).trans (show F1184 (sc) (14 : Int) = F1136 (sc) (14 : Int) from by rw [eF1184]; exact uF_a (fun w => by have q1 := ho1172.2; have q2 := ho1171.2; rw [w, q2] at q1; exact absurd q1 (by decide))))
                  have q1263 : lz (F1197 (sc) (14 : Int)) = lz (F1136 (sc) (14 : Int)) := by rw [q1262]
                  have q1264 := lz_b (F1136 (sc) (14 : Int))
                  refine cx_vi (c := 10) (a := sc) (st := []) (as := []) rfl rfl rfl ho1172.1 ho1172.2 (by decide) rfl ⟨rfl, rfl, (Nat.le_of_ble_eq_true rfl)⟩ rfl (k_LScanner_next (dd := d) (R := R) (m := m1135) (tg := tg1135) (ln := ln1135) (F := F1197) (me := sc) (hd := by omega) (hC := hC1198) (o_me := ho1172.1) (t_me := ho1172.2) (p_0 := by omega) (p_1 := by omega)) (fun o V_q hq => ?_)
                  obtain ⟨F1265, rfl, rfl, hC1266, hM1267, p1268, p1269, p1270, -⟩ := hq
                  have hM1271 : Fq pr [(7, 15), (9, 2), (10, 0), (10, 1), (10, 2), (10, 8), (11, 8), (11, 12), (11, 13), (11, 14), (11, 15), (11, 16), (11, 17), (11, 18)] m tg F F1265 := Fq_t (ln := ln) (ln1 := ln1135) hM1199 hX1174 hM1267 (by decide) (Or.inr (Or.inl rfl))
                  have c1272 : NP m1135 tg1135 F1265 := NP_q hC1198 c1200 hM1267 rfl rfl
                  refine Or.inl ⟨rfl, ?_⟩
                  refine jx_inc (pc_q := 113) (l_q := jSto1 L1188 4 (.int (i32 (k + (1))))) (x := k) rfl g1192 (by decide) rfl rfl ?_
                  obtain ⟨L1273, eL1273⟩ : ∃ q : jL, q = jSto1 L1188 4 (.int (i32 ((k + (1))))) := ⟨_, rfl⟩
                  rw [← eL1273]
                  have g1274 : jGet L1273 0 = some (rv (me)) := eL1273 ▸ jg_nr (by decide) g1189
                  have g1275 : jGet L1273 1 = some (rv (pr)) := eL1273 ▸ jg_nr (by decide) g1190
                  have g1276 : jGet L1273 2 = some (rv (F (me) (2 : Int))) := eL1273 ▸ jg_nr (by decide) g1191
                  have g1277 : jGet L1273 5 = some (rv (r1137)) := eL1273 ▸ jg_nr (by decide) g1193
                  have g1278 : jGet L1273 3 = some (rv (r1137)) := eL1273 ▸ jg_nr (by decide) g1194
                  have g1279 : jGet L1273 4 = some (.int (i32 ((k + (1))))) := eL1273 ▸ jg_eq
                  clear eL1273
                  refine jx_go (tg := 16) rfl rfl ?_
                  have q1280 := tz_b (F1265 (sc) (15 : Int))
                  have q1281 := lz_b (F1265 (sc) (14 : Int))
                  have q1282 : F1265 (pg) (9 : Int) = F (pg) (9 : Int) := ((show F1265 (pg) (9 : Int) = F1197 (pg) (9 : Int) from hM1267 _ _ ho1173.1 (own_z ho1173.1) (by rw [ho1173.2]; rfl)).trans ((show F1197 (pg) (9 : Int) = F1184 (pg) (9 : Int) from by rw [eF1197]; exact uF_j (by decide)).trans ((show F1184 (pg) (9 : Int) = F1136 (pg) (9 : Int) from by rw [eF1184]; exact uF_j (by decide)).trans ((show F1136 (pg) (9 : Int) = Fx (pg) (9 : Int) from hM1140 _ _ ho6.1 (own_z ho6.1) (by rw [ho6.2]; rfl)).trans (show Fx (pg) (9 : Int) = F (pg) (9 : Int) from hMx _ _ o_pg (fun w => by have q1 := ho1173.2; rw [w, ho1169.2] at q1; exact absurd q1 (by decide)) (by rw [t_pg]; rfl))))))
                  have q1283 : F1265 (pr) (13 : Int) = Fx (pr) (13 : Int) := ((show F1265 (pr) (13 : Int) = F1197 (pr) (13 : Int) from hM1267 _ _ ho1169.1 (own_z ho1169.1) (by rw [ho1169.2]; rfl)).trans ((show F1197 (pr) (13 : Int) = F1184 (pr) (13 : Int) from by rw [eF1197]; exact uF_j (by decide)).trans ((show F1184 (pr) (13 : Int) = F1136 (pr) (13 : Int) from by rw [eF1184]; exact uF_j (by decide)).trans (show F1136 (pr) (13 : Int) = Fx (pr) (13 : Int) from hM1140 _ _ ho4.1 (own_z ho4.1) (by rw [ho4.2]; rfl)))))
                  have q1284 : F1265 (r1137) (14 : Int) = F1136 (r1137) (14 : Int) := ((show F1265 (r1137) (14 : Int) = F1197 (r1137) (14 : Int) from hM1267 _ _ b1141.1 (own_z b1141.1) (by rw [b1141.2]; rfl)).trans ((show F1197 (r1137) (14 : Int) = F1184 (r1137) (14 : Int) from by rw [eF1197]; exact uF_j (by decide)).trans (show F1184 (r1137) (14 : Int) = F1136 (r1137) (14 : Int) from by rw [eF1184]; exact uF_a (by omega))))
                  exact ih _ (by omega) L1273 m1135 tg1135 ln1135 F1265 ((k + (1))) (r1137) rfl g1274 g1275 g1276 g1279 g1278 hX1174 hC1266 hM1271 (by omega) (Or.inr ⟨b1141.1, b1141.2⟩) (by omega) (by omega) (by omega) (by omega) (by omega) (by omega) (by omega) (by omega) (by omega) (by omega) c1272 c1175
                · have _q := h1256
                  refine jx_go (tg := 116) rfl rfl ?_
                  refine jx_ld (pc_q := 117) (l_q := L1188) (st_q := [rv (me)]) rfl (jl_rvn g1189) ?_
                  refine jx_ar (pc_q := 119) (st_q := [.int (i32 (55)), rv (me)]) rfl rfl rfl rfl ?_
                  have q1285 : F1197 (sc) (8 : Int) = F1136 (sc) (8 : Int) := ((show F1197 (sc) (8 : Int) = F1184 (sc) (8 : Int) from by rw [eF1197]; exact uF_a (fun w => by have q1 := ho1172.2; have q2 := ho1169.2; rw [w, q2] at q1; exact absurd q1 (by decide))).trans (show F1184 (sc) (8 : Int) = F1136 (sc) (8 : Int) from by rw [eF1184]; exact uF_j (by decide)))
                  have q1286 : F1197 (sc) (15 : Int) = F1136 (sc) (15 : Int) := ((show F1197 (sc) (15 : Int) = F1184 (sc) (15 : Int) from by rw [eF1197]; exact uF_j (by decide)).trans (show F1184 (sc) (15 : Int) = F1136 (sc) (15 : Int) from by rw [eF1184]; exact uF_j (by decide)))
                  have q1287 : tz (F1197 (sc) (15 : Int)) = tz (F1136 (sc) (15 : Int)) := by rw [q1286]
                  have q1288 := tz_b (F1136 (sc) (15 : Int))
                  have q1289 : F1197 (sc) (7 : Int) = F (sc) (7 : Int) := ((show F1197 (sc) (7 : Int) = F1184 (sc) (7 : Int) from by rw [eF1197]; exact uF_j (by decide)).trans ((show F1184 (sc) (7 : Int) = F1136 (sc) (7 : Int) from by rw [eF1184]; exact uF_j (by decide)).trans ((show F1136 (sc) (7 : Int) = Fx (sc) (7 : Int) from hM1140 _ _ ho5.1 (own_z ho5.1) (by rw [ho5.2]; rfl)).trans (show Fx (sc) (7 : Int) = F (sc) (7 : Int) from hMx _ _ o_sc (fun w => by have q1 := ho1172.2; rw [w, ho1169.2] at q1; exact absurd q1 (by decide)) (by rw [t_sc]; rfl)))))
                  have q1290 : F1197 (sc) (14 : Int) = F1136 (sc) (14 : Int) := ((show F1197 (sc) (14 : Int) = F1184 (sc) (14 : Int) from by rw [eF1197]; exact uF_j (by decide)).trans (show F1184 (sc) (14 : Int) = F1136 (sc) (14 : Int) from by rw [eF1184]; exact uF_a (fun w => by have q1 := ho1172.2; have q2 := ho1171.2; rw [w, q2] at q1; exact absurd q1 (by decide))))
                  have q1291 : lz (F1197 (sc) (14 : Int)) = lz (F1136 (sc) (14 : Int)) := by rw [q1290]
                  have q1292 := lz_b (F1136 (sc) (14 : Int))
                  have q1293 : F1197 (pg) (9 : Int) = F (pg) (9 : Int) := ((show F1197 (pg) (9 : Int) = F1184 (pg) (9 : Int) from by rw [eF1197]; exact uF_j (by decide)).trans ((show F1184 (pg) (9 : Int) = F1136 (pg) (9 : Int) from by rw [eF1184]; exact uF_j (by decide)).trans ((show F1136 (pg) (9 : Int) = Fx (pg) (9 : Int) from hM1140 _ _ ho6.1 (own_z ho6.1) (by rw [ho6.2]; rfl)).trans (show Fx (pg) (9 : Int) = F (pg) (9 : Int) from hMx _ _ o_pg (fun w => by have q1 := ho1173.2; rw [w, ho1169.2] at q1; exact absurd q1 (by decide)) (by rw [t_pg]; rfl)))))
                  refine cx_vi (c := 8) (a := me) (st := []) (as := [.int (i32 (55))]) rfl rfl rfl ho1168.1 ho1168.2 (by decide) rfl ⟨rfl, rfl, (Nat.le_of_ble_eq_true rfl)⟩ rfl (k_LParser_expect (dd := d) (R := R) (m := m1135) (tg := tg1135) (ln := ln1135) (F := F1197) (me := me) (tk := 55) (hd := by omega) (hC := hC1198) (o_me := ho1168.1) (t_me := ho1168.2) (h_tk := by omega) (sc := sc) (pg := pg) (o_sc := ho1172.1) (t_sc := ho1172.2) (e_sc := (((show F1197 (me) (1 : Int) = F1184 (me) (1 : Int) from by rw [eF1197]; exact uF_j (by decide)).trans ((show F1184 (me) (1 : Int) = F1136 (me) (1 : Int) from by rw [eF1184]; exact uF_j (by decide)).trans ((show F1136 (me) (1 : Int) = Fx (me) (1 : Int) from hM1140 _ _ ho3.1 (own_z ho3.1) (by rw [ho3.2]; rfl)).trans (show Fx (me) (1 : Int) = F (me) (1 : Int) from hMx _ _ o_me (fun w => by have q1 := ho1168.2; rw [w, ho1169.2] at q1; exact absurd q1 (by decide)) (by rw [t_me]; rfl))))).trans e_sc)) (o_pg := ho1173.1) (t_pg := ho1173.2) (e_pg := (((show F1197 (me) (0 : Int) = F1184 (me) (0 : Int) from by rw [eF1197]; exact uF_j (by decide)).trans ((show F1184 (me) (0 : Int) = F1136 (me) (0 : Int) from by rw [eF1184]; exact uF_j (by decide)).trans ((show F1136 (me) (0 : Int) = Fx (me) (0 : Int) from hM1140 _ _ ho3.1 (own_z ho3.1) (by rw [ho3.2]; rfl)).trans (show Fx (me) (0 : Int) = F (me) (0 : Int) from hMx _ _ o_me (fun w => by have q1 := ho1168.2; rw [w, ho1169.2] at q1; exact absurd q1 (by decide)) (by rw [t_me]; rfl))))).trans e_pg)) (p_0 := by omega) (p_1 := by omega) (p_2 := by omega) (p_3 := by omega) (c_NP := c1200)) (fun o V_q hq => ?_)
                  obtain ⟨m1294, tg1294, ln1294, F1295, rfl, rfl, hx1296, hC1297, hM1298, p1299, p1300, p1301, p1302, p1303, p1304, p1305, c1306, c1307, -⟩ | ⟨m1308, tg1308, ln1308, F1308, x1308, rfl, rfl, hx1308, hC1308, hM1308, ho1308, ht1308, p1309, p1310, p1311, p1312, c1313, c1314, -⟩ := hq
                  rotate_left
                  ·
                    have c1315 : NM m m1308 tg1308 := NM_t c1175 hx1308 c1314
                    have lm1316 := hx1308.1
                    refine Or.inr (Or.inr (Or.inr ⟨_, _, rfl, cx_exc (c := 15) ho1308 ht1308 (by decide), rfl, ?_⟩))
                    have q1317 : F1197 (sc) (8 : Int) = F1136 (sc) (8 : Int) := q1285
                    have q1318 : F1197 (sc) (7 : Int) = F (sc) (7 : Int) := q1289
                    exact Or.inr ⟨m1308, tg1308, ln1308, F1308, x1308, rfl, rfl, Ex_t hX1174 hx1308, hC1308, Fq_t (ln := ln) (ln1 := ln1135) hM1199 hX1174 hM1308 (by decide) (Or.inr (Or.inl rfl)), (And.intro ho1308 ht1308).1, (And.intro ho1308 ht1308).2, by omega, by omega, by omega, by omega, c1313, c1315, trivial⟩
                  have hM1319 : Fq pr [(7, 15), (9, 2), (10, 0), (10, 1), (10, 2), (10, 8), (11, 8), (11, 12), (11, 13), (11, 14), (11, 15), (11, 16), (11, 17), (11, 18)] m tg F F1295 := Fq_t (ln := ln) (ln1 := ln1135) hM1199 hX1174 hM1298 (by decide) (Or.inr (Or.inl rfl))
                  have lm1320 := hx1296.1
                  have lt1321 : pr < 64 + (m1135 : Int) := ho1169.1.2.1
                  have lt1322 : F (me) (2 : Int) < 64 + (m1135 : Int) := by rcases y1170 with w | w; (· omega); exact w.1.2.1
                  have lt1323 : r1137 < 64 + (m1135 : Int) := b1141.1.2.1
                  have ho1324 : own m1294 (me) ∧ tg1294 (me) = 9 := Ex_o hx1296 ⟨ho1168.1, ho1168.2⟩
                  have ho1325 : own m1294 (pr) ∧ tg1294 (pr) = 7 := Ex_o hx1296 ⟨ho1169.1, ho1169.2⟩
                  have y1326 : F (me) (2 : Int) = 0 ∨ (own m1294 (F (me) (2 : Int)) ∧ tg1294 (F (me) (2 : Int)) = 7) := Ex_z hx1296 y1170
                  have ho1327 : own m1294 (r1137) ∧ tg1294 (r1137) = 7 := Ex_o hx1296 ⟨b1141.1, b1141.2⟩
                  have ho1328 : own m1294 (sc) ∧ tg1294 (sc) = 11 := Ex_o hx1296 ⟨ho1172.1, ho1172.2⟩
                  have ho1329 : own m1294 (pg) ∧ tg1294 (pg) = 10 := Ex_o hx1296 ⟨ho1173.1, ho1173.2⟩
                  have hX1330 := Ex_t hX1174 hx1296
                  have c1331 : NM m m1294 tg1294 := NM_t c1175 hx1296 c1307
                  refine Or.inl ⟨rfl, ?_⟩
                  refine jx_rt (v := none) rfl rfl rfl rfl rfl rfl ?_
                  have q1332 : F1295 (sc) (7 : Int) = F (sc) (7 : Int) := ((show F1295 (sc) (7 : Int) = F1197 (sc) (7 : Int) from hM1298 _ _ ho1172.1 (own_z ho1172.1) (by rw [ho1172.2]; rfl)).trans q1289)
                  have q1333 : F1295 (pg) (9 : Int) = F (pg) (9 : Int) := ((show F1295 (pg) (9 : Int) = F1197 (pg) (9 : Int) from hM1298 _ _ ho1173.1 (own_z ho1173.1) (by rw [ho1173.2]; rfl)).trans q1293)
                  have q1334 := tz_b (F1295 (sc) (15 : Int))
                  have q1335 := lz_b (F1295 (sc) (14 : Int))
                  have q1336 : F1295 (pg) (9 : Int) = F (pg) (9 : Int) := q1333
                  exact Or.inl ⟨m1294, tg1294, ln1294, F1295, rfl, rfl, hX1330, hC1297, hM1319, by omega, by omega, by omega, by omega, by omega, by omega, by omega, c1306, c1331, trivial⟩
            · have _q := h1183
              exact absurd h1183 (by have := ho1171.1.1; omega)
set_option maxRecDepth 20000 in
set_option maxHeartbeats 4000000 in
theorem k_LParser_readParameters {X : jX} {dd : Nat} {R : Nat → jC} {m : Nat} {tg ln : Int → Int} {F : Int → Int → Int} {me pr : Int} (hd : 32 ≤ dd) (hC : HC 0 m tg ln F) {sc pg : Int} (o_sc : own m sc) (t_sc : tg sc = 11) (e_sc : F me (1 : Int) = sc) (o_pg : own m pg) (t_pg : tg pg = 10) (e_pg : F me (0 : Int) = pg) (o_me : own m me) (t_me : tg me = 9) (o_pr : own m pr) (t_pr : tg pr = 7) (p_0 : F sc (8 : Int) + 2 * tz (F sc (15 : Int)) ≤ F sc (7 : Int) + 1) (p_1 : F sc (8 : Int) + 2 * lz (F sc (14 : Int)) ≤ F sc (7 : Int) + 1) (p_2 : F sc (8 : Int) ≤ F sc (7 : Int)) (p_3 : F pr (13 : Int) = 0) (c_NP : NP m tg F) : wk X dd 173 [rv me, rv pr] (cV R m tg ln F) (fun o V_q => (∃ (m_q : Nat) (tg_q ln_q : Int → Int) (F_q : Int → Int → Int), V_q = cV R m_q tg_q ln_q F_q ∧ o = .inl none ∧ Ex m tg ln m_q tg_q ln_q ∧ HC 0 m_q tg_q ln_q F_q ∧ Fq pr [(7, 15), (9, 2), (10, 0), (10, 1), (10, 2), (10, 8), (11, 8), (11, 12), (11, 13), (11, 14), (11, 15), (11, 16), (11, 17), (11, 18)] m tg F F_q ∧ (F_q sc (8 : Int) + 2 * tz (F_q sc (15 : Int)) ≤ F sc (7 : Int) + 1) ∧ (F_q sc (8 : Int) + 2 * lz (F_q sc (14 : Int)) ≤ F sc (7 : Int) + 1) ∧ (F_q sc (8 : Int) ≤ F sc (7 : Int)) ∧ (F sc (8 : Int) ≤ F_q sc (8 : Int)) ∧ (szD m_q tg_q ln_q = szD m tg ln + 25 * ((m_q : Int) - (m : Int))) ∧ ((m_q : Int) ≤ (m : Int) + (F_q sc (8 : Int) - F sc (8 : Int)) + (0)) ∧ (F_q pg (9 : Int) ≤ F pg (9 : Int) + ((m_q : Int) - (m : Int))) ∧ (NP m_q tg_q F_q) ∧ (NM m m_q tg_q) ∧ True) ∨ (∃ (m_q : Nat) (tg_q ln_q : Int → Int) (F_q : Int → Int → Int) (x : Nat), V_q = cV R m_q tg_q ln_q F_q ∧ o = .inr x ∧ Ex m tg ln m_q tg_q ln_q ∧ HC 0 m_q tg_q ln_q F_q ∧ Fq pr [(7, 15), (9, 2), (10, 0), (10, 1), (10, 2), (10, 8), (11, 8), (11, 12), (11, 13), (11, 14), (11, 15), (11, 16), (11, 17), (11, 18)] m tg F F_q ∧ (own m_q (x : Int)) ∧ (tg_q (x : Int) = 16) ∧ (F_q pg (0 : Int) ≠ 0) ∧ (szD m_q tg_q ln_q = szD m tg ln + 25 * ((m_q : Int) - (m : Int))) ∧ ((m_q : Int) ≤ (m : Int) + (F_q sc (8 : Int) - F sc (8 : Int)) + (1)) ∧ (F_q sc (8 : Int) ≤ F sc (7 : Int) + 1) ∧ (NP m_q tg_q F_q) ∧ (NM m m_q tg_q) ∧ True)) := by
  obtain ⟨d, rfl⟩ : ∃ d, dd = d + 1 := ⟨dd - 1, by omega⟩
  refine wk_of (e := jm173) rfl (by rw [jS_r, jS_r, jS_0]; exact Nat.le_of_ble_eq_true rfl) ?_
  rw [la_r, la_r, la_0]
  show wj X d jm173 (0, [(0, rv (me)), (1, rv (pr))], [], cV R m tg ln F) _
  have hM0 : Fq pr [(7, 15), (9, 2), (10, 0), (10, 1), (10, 2), (10, 8), (11, 8), (11, 12), (11, 13), (11, 14), (11, 15), (11, 16), (11, 17), (11, 18)] m tg F F := Fq_r
  have hX0 : Ex m tg ln m tg ln := Ex_r
  obtain ⟨L0, eL0⟩ : ∃ q : jL, q = [(0, rv (me)), (1, rv (pr))] := ⟨_, rfl⟩
  rw [← eL0]
  have g1337 : jGet L0 0 = some (rv (me)) := eL0 ▸ (rfl : jGet [(0, rv (me)), (1, rv (pr))] 0 = some (rv (me)))
  have g1338 : jGet L0 1 = some (rv (pr)) := eL0 ▸ (rfl : jGet [(0, rv (me)), (1, rv (pr))] 1 = some (rv (pr)))
  clear eL0
  have tb0 := tz_b (F sc (15 : Int))
  have lb0 := lz_b (F sc (14 : Int))
  have ob0 : (0 : Int) ≤ F me (3 : Int) ∧ F me (3 : Int) ≤ 8 := HC_i (c := 8) (q := 3) hC o_me t_me (by decide) rfl
  have tp0 : F me (2 : Int) < 64 + (m : Int) := by
    have z : F me (2 : Int) = 0 ∨ (own m (F me (2 : Int)) ∧ tg (F me (2 : Int)) = 7) := HC_r (c := 8) (q := 2) hC o_me t_me (by decide) rfl
    rcases z with w | w
    · omega
    · exact w.1.2.1
  have nz_pr := own_z o_pr
  refine jx_ld (pc_q := 1) (l_q := L0) (st_q := [rv (me)]) rfl (jl_rvn g1337) ?_
  refine cx_gr (pc_q := 4) (c := 8) (q := 2) (v := F (me) (2 : Int)) rfl rfl (by decide) (by decide) rfl rfl o_me t_me rfl ?_
  have y1339 : F (me) (2 : Int) = 0 ∨ (own m (F (me) (2 : Int)) ∧ tg (F (me) (2 : Int)) = 7) := by have z := HC_r (c := 8) (q := 2) hC o_me t_me (by decide) rfl; rw [show F (me) ((2 : Nat) : Int) = F (me) (2 : Int) from rfl] at z; exact z
  refine jx_ld (pc_q := 5) (l_q := jSto1 L0 2 (rv (F (me) (2 : Int)))) (st_q := []) rfl (js_rvn (by decide)) ?_
  obtain ⟨L1340, eL1340⟩ : ∃ q : jL, q = jSto1 L0 2 (rv (F (me) (2 : Int))) := ⟨_, rfl⟩
  rw [← eL1340]
  have g1341 : jGet L1340 0 = some (rv (me)) := eL1340 ▸ jg_nr (by decide) g1337
  have g1342 : jGet L1340 1 = some (rv (pr)) := eL1340 ▸ jg_nr (by decide) g1338
  have g1343 : jGet L1340 2 = some (rv (F (me) (2 : Int))) := eL1340 ▸ jg_eq
  clear eL1340
  refine jx_ld (pc_q := 6) (l_q := L1340) (st_q := [rv (me)]) rfl (jl_rvn g1341) ?_
  refine jx_ar (pc_q := 8) (st_q := [.int (i32 (54)), rv (me)]) rfl rfl rfl rfl ?_
  have q1344 := tz_b (F (sc) (15 : Int))
  have q1345 := lz_b (F (sc) (14 : Int))
  refine cx_vi (c := 8) (a := me) (st := []) (as := [.int (i32 (54))]) rfl rfl rfl o_me t_me (by decide) rfl ⟨rfl, rfl, (Nat.le_of_ble_eq_true rfl)⟩ rfl (k_LParser_expect (dd := d) (R := R) (m := m) (tg := tg) (ln := ln) (F := F) (me := me) (tk := 54) (hd := by omega) (hC := hC) (o_me := o_me) (t_me := t_me) (h_tk := by omega) (sc := sc) (pg := pg) (o_sc := o_sc) (t_sc := t_sc) (e_sc := e_sc) (o_pg := o_pg) (t_pg := t_pg) (e_pg := e_pg) (p_0 := by omega) (p_1 := by omega) (p_2 := by omega) (p_3 := by omega) (c_NP := c_NP)) (fun o V_q hq => ?_)
  obtain ⟨m1346, tg1346, ln1346, F1347, rfl, rfl, hx1348, hC1349, hM1350, p1351, p1352, p1353, p1354, p1355, p1356, p1357, c1358, c1359, -⟩ | ⟨m1360, tg1360, ln1360, F1360, x1360, rfl, rfl, hx1360, hC1360, hM1360, ho1360, ht1360, p1361, p1362, p1363, p1364, c1365, c1366, -⟩ := hq
  rotate_left
  ·
    have c1367 : NM m m1360 tg1360 := NM_t NM_0 hx1360 c1366
    have lm1368 := hx1360.1
    refine Or.inr (Or.inr (Or.inr ⟨_, _, rfl, cx_exc (c := 15) ho1360 ht1360 (by decide), rfl, ?_⟩))
    exact Or.inr ⟨m1360, tg1360, ln1360, F1360, x1360, rfl, rfl, Ex_t hX0 hx1360, hC1360, Fq_t (ln := ln) (ln1 := ln) hM0 hX0 hM1360 (by decide) (Or.inr (Or.inl rfl)), (And.intro ho1360 ht1360).1, (And.intro ho1360 ht1360).2, by omega, by omega, by omega, by omega, c1365, c1367, trivial⟩
  have hM1369 : Fq pr [(7, 15), (9, 2), (10, 0), (10, 1), (10, 2), (10, 8), (11, 8), (11, 12), (11, 13), (11, 14), (11, 15), (11, 16), (11, 17), (11, 18)] m tg F F1347 := Fq_t (ln := ln) (ln1 := ln) hM0 hX0 hM1350 (by decide) (Or.inr (Or.inl rfl))
  have lm1370 := hx1348.1
  have lt1371 : pr < 64 + (m : Int) := o_pr.2.1
  have lt1372 : F (me) (2 : Int) < 64 + (m : Int) := by rcases y1339 with w | w; (· omega); exact w.1.2.1
  have ho1373 : own m1346 (me) ∧ tg1346 (me) = 9 := Ex_o hx1348 ⟨o_me, t_me⟩
  have ho1374 : own m1346 (pr) ∧ tg1346 (pr) = 7 := Ex_o hx1348 ⟨o_pr, t_pr⟩
  have y1375 : F (me) (2 : Int) = 0 ∨ (own m1346 (F (me) (2 : Int)) ∧ tg1346 (F (me) (2 : Int)) = 7) := Ex_z hx1348 y1339
  have ho1376 : own m1346 (sc) ∧ tg1346 (sc) = 11 := Ex_o hx1348 ⟨o_sc, t_sc⟩
  have ho1377 : own m1346 (pg) ∧ tg1346 (pg) = 10 := Ex_o hx1348 ⟨o_pg, t_pg⟩
  have hX1378 := Ex_t hX0 hx1348
  have c1379 : NM m m1346 tg1346 := NM_t NM_0 hx1348 c1359
  refine Or.inl ⟨rfl, ?_⟩
  refine jx_ar (pc_q := 12) (st_q := .null :: []) rfl rfl rfl rfl ?_
  rw [← rv_0]
  refine jx_ld (pc_q := 13) (l_q := jSto1 L1340 3 (rv (0))) (st_q := []) rfl (js_rvn (by decide)) ?_
  obtain ⟨L1380, eL1380⟩ : ∃ q : jL, q = jSto1 L1340 3 (rv (0)) := ⟨_, rfl⟩
  rw [← eL1380]
  have g1381 : jGet L1380 0 = some (rv (me)) := eL1380 ▸ jg_nr (by decide) g1341
  have g1382 : jGet L1380 1 = some (rv (pr)) := eL1380 ▸ jg_nr (by decide) g1342
  have g1383 : jGet L1380 2 = some (rv (F (me) (2 : Int))) := eL1380 ▸ jg_nr (by decide) g1343
  have g1384 : jGet L1380 3 = some (rv (0)) := eL1380 ▸ jg_eq
  clear eL1380
  refine jx_ar (pc_q := 14) (st_q := [.int (i32 (0))]) rfl rfl rfl rfl ?_
  refine jx_ld (pc_q := 16) (l_q := jSto1 L1380 4 (.int (i32 (0)))) (st_q := []) rfl rfl ?_
  obtain ⟨L1385, eL1385⟩ : ∃ q : jL, q = jSto1 L1380 4 (.int (i32 (0))) := ⟨_, rfl⟩
  rw [← eL1385]
  have g1386 : jGet L1385 0 = some (rv (me)) := eL1385 ▸ jg_nr (by decide) g1381
  have g1387 : jGet L1385 1 = some (rv (pr)) := eL1385 ▸ jg_nr (by decide) g1382
  have g1388 : jGet L1385 2 = some (rv (F (me) (2 : Int))) := eL1385 ▸ jg_nr (by decide) g1383
  have g1389 : jGet L1385 3 = some (rv (0)) := eL1385 ▸ jg_nr (by decide) g1384
  have g1390 : jGet L1385 4 = some (.int (i32 (0))) := eL1385 ▸ jg_eq
  clear eL1385
  have q1391 := tz_b (F1347 (sc) (15 : Int))
  have q1392 := lz_b (F1347 (sc) (14 : Int))
  have q1393 : F1347 (pg) (9 : Int) = F (pg) (9 : Int) := (show F1347 (pg) (9 : Int) = F (pg) (9 : Int) from hM1350 _ _ o_pg (own_z o_pg) (by rw [t_pg]; rfl))
  have q1394 : F1347 (pr) (13 : Int) = F (pr) (13 : Int) := (show F1347 (pr) (13 : Int) = F (pr) (13 : Int) from hM1350 _ _ o_pr (own_z o_pr) (by rw [t_pr]; rfl))
  exact k_LParser_readParameters_at_16 (X := X) (d := d) (R := R) (m := m) (tg := tg) (ln := ln) (F := F) (me := me) (pr := pr) (hd := hd) (hC := hC) (sc := sc) (pg := pg) (o_sc := o_sc) (t_sc := t_sc) (e_sc := e_sc) (o_pg := o_pg) (t_pg := t_pg) (e_pg := e_pg) (o_me := o_me) (t_me := t_me) (o_pr := o_pr) (t_pr := t_pr) (p_0 := p_0) (p_1 := p_1) (p_2 := p_2) (p_3 := p_3) (c_NP := c_NP) _ L1385 m1346 tg1346 ln1346 F1347 (0) (0) rfl g1386 g1387 g1388 g1390 g1389 hX1378 hC1349 hM1369 (by omega) (Or.inl rfl) (by omega) (by omega) (by omega) (by omega) (by omega) (by omega) (by omega) (by omega) (by omega) (by omega) c1358 c1379
