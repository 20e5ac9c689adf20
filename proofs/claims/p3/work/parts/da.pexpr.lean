def PEx (X : jX) (kk : Nat) : Prop := ∀ ⦃dd : Nat⦄ ⦃R : Nat → jC⦄ ⦃m : Nat⦄ ⦃tg ln : Int → Int⦄ ⦃F : Int → Int → Int⦄ ⦃me : Int⦄ (hd : 5 * kk + 8 ≤ dd) (hC : HC 0 m tg ln F) ⦃sc pg : Int⦄ (o_sc : own m sc) (t_sc : tg sc = 11) (e_sc : F me (1 : Int) = sc) (o_pg : own m pg) (t_pg : tg pg = 10) (e_pg : F me (0 : Int) = pg) (o_me : own m me) (t_me : tg me = 9) (p_0 : F sc (8 : Int) + 2 * tz (F sc (15 : Int)) ≤ F sc (7 : Int) + 1) (p_1 : F sc (8 : Int) + 2 * lz (F sc (14 : Int)) ≤ F sc (7 : Int) + 1) (p_2 : F sc (8 : Int) ≤ F sc (7 : Int)) (p_3 : 9 ≤ (kk : Int) + F me (3 : Int)) (c_NP : NP m tg F), wk X dd 200 [rv me] (cV R m tg ln F) (fun o V_q => (∃ (m_q : Nat) (tg_q ln_q : Int → Int) (F_q : Int → Int → Int) (r : Int), V_q = cV R m_q tg_q ln_q F_q ∧ o = .inl (some (rv r)) ∧ Ex m tg ln m_q tg_q ln_q ∧ HC 0 m_q tg_q ln_q F_q ∧ Fq 0 [(9, 3), (10, 0), (10, 1), (10, 2), (10, 9), (11, 8), (11, 12), (11, 13), (11, 14), (11, 15), (11, 16), (11, 17), (11, 18)] m tg F F_q ∧ (own m_q r ∧ tg_q r = 8) ∧ (F_q sc (8 : Int) + 2 * tz (F_q sc (15 : Int)) ≤ F sc (7 : Int) + 1) ∧ (F_q sc (8 : Int) + 2 * lz (F_q sc (14 : Int)) ≤ F sc (7 : Int) + 1) ∧ (F_q sc (8 : Int) ≤ F sc (7 : Int)) ∧ (F sc (8 : Int) ≤ F_q sc (8 : Int)) ∧ (szD m_q tg_q ln_q = szD m tg ln + 25 * ((m_q : Int) - (m : Int))) ∧ ((m_q : Int) ≤ (m : Int) + (F_q sc (8 : Int) - F sc (8 : Int)) + (0)) ∧ (F_q pg (9 : Int) ≤ F pg (9 : Int) + ((m_q : Int) - (m : Int))) ∧ (64 + (m : Int) ≤ r) ∧ (WK F_q r (18 - 2 * F me (3 : Int))) ∧ (20 ≤ F_q r (0 : Int)) ∧ (F_q me (3 : Int) = F me (3 : Int)) ∧ (NP m_q tg_q F_q) ∧ (NM m m_q tg_q) ∧ True) ∨ (∃ (m_q : Nat) (tg_q ln_q : Int → Int) (F_q : Int → Int → Int) (x : Nat), V_q = cV R m_q tg_q ln_q F_q ∧ o = .inr x ∧ Ex m tg ln m_q tg_q ln_q ∧ HC 0 m_q tg_q ln_q F_q ∧ Fq 0 [(9, 3), (10, 0), (10, 1), (10, 2), (10, 9), (11, 8), (11, 12), (11, 13), (11, 14), (11, 15), (11, 16), (11, 17), (11, 18)] m tg F F_q ∧ (own m_q (x : Int)) ∧ (tg_q (x : Int) = 16) ∧ (F_q pg (0 : Int) ≠ 0) ∧ (szD m_q tg_q ln_q = szD m tg ln + 25 * ((m_q : Int) - (m : Int))) ∧ ((m_q : Int) ≤ (m : Int) + (F_q sc (8 : Int) - F sc (8 : Int)) + (1)) ∧ (F_q sc (8 : Int) ≤ F sc (7 : Int) + 1) ∧ (NP m_q tg_q F_q) ∧ (NM m m_q tg_q) ∧ True))
set_option maxRecDepth 20000 in
set_option maxHeartbeats 4000000 in
theorem k_LParser_unjudged {X : jX} {kk : Nat} (hE : 1 ≤ kk → PEx X (kk - 1)) {dd : Nat} {R : Nat → jC} {m : Nat} {tg ln : Int → Int} {F : Int → Int → Int} {me : Int} (hd : 5 * kk + 4 ≤ dd) (hC : HC 0 m tg ln F) {sc pg : Int} (o_sc : own m sc) (t_sc : tg sc = 11) (e_sc : F me (1 : Int) = sc) (o_pg : own m pg) (t_pg : tg pg = 10) (e_pg : F me (0 : Int) = pg) (o_me : own m me) (t_me : tg me = 9) (p_0 : F sc (8 : Int) + 2 * tz (F sc (15 : Int)) ≤ F sc (7 : Int) + 1) (p_1 : F sc (8 : Int) + 2 * lz (F sc (14 : Int)) ≤ F sc (7 : Int) + 1) (p_2 : F sc (8 : Int) ≤ F sc (7 : Int)) (p_3 : tz (F sc (15 : Int)) = 1) (p_4 : 9 ≤ (kk : Int) + F me (3 : Int)) (c_NP : NP m tg F) : wk X dd 195 [rv me] (cV R m tg ln F) (fun o V_q => (∃ (m_q : Nat) (tg_q ln_q : Int → Int) (F_q : Int → Int → Int) (r : Int), V_q = cV R m_q tg_q ln_q F_q ∧ o = .inl (some (rv r)) ∧ Ex m tg ln m_q tg_q ln_q ∧ HC 0 m_q tg_q ln_q F_q ∧ Fq 0 [(9, 3), (10, 0), (10, 1), (10, 2), (10, 9), (11, 8), (11, 12), (11, 13), (11, 14), (11, 15), (11, 16), (11, 17), (11, 18)] m tg F F_q ∧ (own m_q r ∧ tg_q r = 8) ∧ (F_q sc (8 : Int) + 2 * tz (F_q sc (15 : Int)) ≤ F sc (7 : Int) + 1) ∧ (F_q sc (8 : Int) + 2 * lz (F_q sc (14 : Int)) ≤ F sc (7 : Int) + 1) ∧ (F_q sc (8 : Int) ≤ F sc (7 : Int)) ∧ (F sc (8 : Int) ≤ F_q sc (8 : Int)) ∧ (szD m_q tg_q ln_q = szD m tg ln + 25 * ((m_q : Int) - (m : Int))) ∧ ((m_q : Int) ≤ (m : Int) + (F_q sc (8 : Int) - F sc (8 : Int)) + (0)) ∧ (F_q pg (9 : Int) ≤ F pg (9 : Int) + ((m_q : Int) - (m : Int))) ∧ (64 + (m : Int) ≤ r) ∧ (WK F_q r (17 - 2 * F me (3 : Int))) ∧ (20 ≤ F_q r (0 : Int)) ∧ (F_q me (3 : Int) = F me (3 : Int)) ∧ (F_q r (3 : Int) ≠ 0) ∧ (NP m_q tg_q F_q) ∧ (NM m m_q tg_q) ∧ True) ∨ (∃ (m_q : Nat) (tg_q ln_q : Int → Int) (F_q : Int → Int → Int) (x : Nat), V_q = cV R m_q tg_q ln_q F_q ∧ o = .inr x ∧ Ex m tg ln m_q tg_q ln_q ∧ HC 0 m_q tg_q ln_q F_q ∧ Fq 0 [(9, 3), (10, 0), (10, 1), (10, 2), (10, 9), (11, 8), (11, 12), (11, 13), (11, 14), (11, 15), (11, 16), (11, 17), (11, 18)] m tg F F_q ∧ (own m_q (x : Int)) ∧ (tg_q (x : Int) = 16) ∧ (F_q pg (0 : Int) ≠ 0) ∧ (szD m_q tg_q ln_q = szD m tg ln + 25 * ((m_q : Int) - (m : Int))) ∧ ((m_q : Int) ≤ (m : Int) + (F_q sc (8 : Int) - F sc (8 : Int)) + (1)) ∧ (F_q sc (8 : Int) ≤ F sc (7 : Int) + 1) ∧ (NP m_q tg_q F_q) ∧ (NM m m_q tg_q) ∧ True)) := by
  obtain ⟨d, rfl⟩ : ∃ d, dd = d + 1 := ⟨dd - 1, by omega⟩
  refine wk_of (e := jm195) rfl (by rw [jS_r, jS_0]; exact Nat.le_of_ble_eq_true rfl) ?_
  rw [la_r, la_0]
  show wj X d jm195 (0, [(0, rv (me))], [], cV R m tg ln F) _
  have hM0 : Fq 0 [(9, 3), (10, 0), (10, 1), (10, 2), (10, 9), (11, 8), (11, 12), (11, 13), (11, 14), (11, 15), (11, 16), (11, 17), (11, 18)] m tg F F := Fq_r
  have hX0 : Ex m tg ln m tg ln := Ex_r
  obtain ⟨L0, eL0⟩ : ∃ q : jL, q = [(0, rv (me))] := ⟨_, rfl⟩
  rw [← eL0]
  have g1 : jGet L0 0 = some (rv (me)) := eL0 ▸ (rfl : jGet [(0, rv (me))] 0 = some (rv (me)))
  clear eL0
  have tb0 := tz_b (F sc (15 : Int))
  have lb0 := lz_b (F sc (14 : Int))
  have ob0 : (0 : Int) ≤ F me (3 : Int) ∧ F me (3 : Int) ≤ 8 := HC_i (c := 8) (q := 3) hC o_me t_me (by decide) rfl
  have tp0 : F me (2 : Int) < 64 + (m : Int) := by
    have z : F me (2 : Int) = 0 ∨ (own m (F me (2 : Int)) ∧ tg (F me (2 : Int)) = 7) := HC_r (c := 8) (q := 2) hC o_me t_me (by decide) rfl
    rcases z with w | w
    · omega
    · exact w.1.2.1
  refine jx_ld (pc_q := 1) (l_q := L0) (st_q := [rv (me)]) rfl (jl_rvn g1) ?_
  refine jx_ld (pc_q := 2) (l_q := L0) (st_q := [rv (me), rv (me)]) rfl (jl_rvn g1) ?_
  have q2 := tz_b (F (sc) (15 : Int))
  have q3 := lz_b (F (sc) (14 : Int))
  refine cx_vi (c := 8) (a := me) (st := [rv (me)]) (as := []) rfl rfl rfl o_me t_me (by decide) rfl ⟨rfl, rfl, (by rw [jS_r, jS_0]; exact Nat.le_of_ble_eq_true rfl)⟩ rfl (k_LParser_known (dd := d) (R := R) (m := m) (tg := tg) (ln := ln) (F := F) (me := me) (hd := by omega) (hC := hC) (o_me := o_me) (t_me := t_me) (sc := sc) (pg := pg) (o_sc := o_sc) (t_sc := t_sc) (e_sc := e_sc) (o_pg := o_pg) (t_pg := t_pg) (e_pg := e_pg) (p_0 := by omega) (p_1 := by omega) (p_2 := by omega) (c_NP := c_NP)) (fun o V_q hq => ?_)
  obtain ⟨m4, tg4, ln4, F5, r6, rfl, rfl, hx7, hC8, hM9, b10, p11, p12, p13, p14, p15, p16, p17, c18, c19, -⟩ | ⟨m20, tg20, ln20, F20, x20, rfl, rfl, hx20, hC20, hM20, ho20, ht20, p21, p22, p23, p24, c25, c26, -⟩ := hq
  rotate_left
  ·
    have c27 : NM m m20 tg20 := NM_t NM_0 hx20 c26
    have lm28 := hx20.1
    refine Or.inr (Or.inr (Or.inr ⟨_, _, rfl, cx_exc (c := 15) ho20 ht20 (by decide), rfl, ?_⟩))
    exact Or.inr ⟨m20, tg20, ln20, F20, x20, rfl, rfl, Ex_t hX0 hx20, hC20, Fq_t (ln := ln) (ln1 := ln) hM0 hX0 hM20 (by decide) (Or.inl rfl), (And.intro ho20 ht20).1, (And.intro ho20 ht20).2, by omega, by omega, by omega, by omega, c25, c27, trivial⟩
  have hM29 : Fq 0 [(9, 3), (10, 0), (10, 1), (10, 2), (10, 9), (11, 8), (11, 12), (11, 13), (11, 14), (11, 15), (11, 16), (11, 17), (11, 18)] m tg F F5 := Fq_t (ln := ln) (ln1 := ln) hM0 hX0 hM9 (by decide) (Or.inl rfl)
  have lm30 := hx7.1
  have ho31 : own m4 (me) ∧ tg4 (me) = 9 := Ex_o hx7 ⟨o_me, t_me⟩
  have ho32 : own m4 (sc) ∧ tg4 (sc) = 11 := Ex_o hx7 ⟨o_sc, t_sc⟩
  have ho33 : own m4 (pg) ∧ tg4 (pg) = 10 := Ex_o hx7 ⟨o_pg, t_pg⟩
  have hX34 := Ex_t hX0 hx7
  have c35 : NM m m4 tg4 := NM_t NM_0 hx7 c19
  refine Or.inr (Or.inl ⟨_, rfl, ?_⟩)
  have q36 : F5 (sc) (8 : Int) = F (sc) (8 : Int) := (show F5 (sc) (8 : Int) = F (sc) (8 : Int) from hM9 _ _ o_sc (own_z o_sc) (by rw [t_sc]; rfl))
  have q37 : F5 (sc) (15 : Int) = F (sc) (15 : Int) := (show F5 (sc) (15 : Int) = F (sc) (15 : Int) from hM9 _ _ o_sc (own_z o_sc) (by rw [t_sc]; rfl))
  have q38 : tz (F5 (sc) (15 : Int)) = tz (F (sc) (15 : Int)) := by rw [q37]
  have q39 := tz_b (F (sc) (15 : Int))
  have q40 : F5 (sc) (7 : Int) = F (sc) (7 : Int) := (show F5 (sc) (7 : Int) = F (sc) (7 : Int) from hM9 _ _ o_sc (own_z o_sc) (by rw [t_sc]; rfl))
  have q41 : F5 (sc) (14 : Int) = F (sc) (14 : Int) := (show F5 (sc) (14 : Int) = F (sc) (14 : Int) from hM9 _ _ o_sc (own_z o_sc) (by rw [t_sc]; rfl))
  have q42 : lz (F5 (sc) (14 : Int)) = lz (F (sc) (14 : Int)) := by rw [q41]
  have q43 := lz_b (F (sc) (14 : Int))
  have q44 : F5 (pg) (9 : Int) = F (pg) (9 : Int) := (show F5 (pg) (9 : Int) = F (pg) (9 : Int) from hM9 _ _ o_pg (own_z o_pg) (by rw [t_pg]; rfl))
  refine cx_vi (c := 8) (a := me) (st := []) (as := [rv (r6)]) rfl rfl rfl ho31.1 ho31.2 (by decide) rfl ⟨rfl, rfl, (Nat.le_of_ble_eq_true rfl)⟩ rfl (k_LParser_newPart (dd := d) (R := R) (m := m4) (tg := tg4) (ln := ln4) (F := F5) (me := me) (nm := r6) (hd := by omega) (hC := hC8) (o_me := ho31.1) (t_me := ho31.2) (o_nm := b10.1) (t_nm := b10.2) (sc := sc) (pg := pg) (o_sc := ho32.1) (t_sc := ho32.2) (e_sc := ((show F5 (me) (1 : Int) = F (me) (1 : Int) from hM9 _ _ o_me (own_z o_me) (by rw [t_me]; rfl)).trans e_sc)) (o_pg := ho33.1) (t_pg := ho33.2) (e_pg := ((show F5 (me) (0 : Int) = F (me) (0 : Int) from hM9 _ _ o_me (own_z o_me) (by rw [t_me]; rfl)).trans e_pg)) (p_0 := by omega) (p_1 := by omega) (p_2 := by omega) (c_NP := c18)) (fun o V_q hq => ?_)
  obtain ⟨m45, tg45, ln45, F46, r47, rfl, rfl, hx48, hC49, hM50, b51, p52, p53, p54, p55, p56, p57, p58, p59, p60, p61, p62, p63, p64, c65, c66, -⟩ := hq
  have hM67 : Fq 0 [(9, 3), (10, 0), (10, 1), (10, 2), (10, 9), (11, 8), (11, 12), (11, 13), (11, 14), (11, 15), (11, 16), (11, 17), (11, 18)] m tg F F46 := Fq_t (ln := ln) (ln1 := ln4) hM29 hX34 hM50 (by decide) (Or.inl rfl)
  have lm68 := hx48.1
  have ho69 : own m45 (me) ∧ tg45 (me) = 9 := Ex_o hx48 ⟨ho31.1, ho31.2⟩
  have ho70 : own m45 (sc) ∧ tg45 (sc) = 11 := Ex_o hx48 ⟨ho32.1, ho32.2⟩
  have ho71 : own m45 (pg) ∧ tg45 (pg) = 10 := Ex_o hx48 ⟨ho33.1, ho33.2⟩
  have hX72 := Ex_t hX34 hx48
  have q73 := p60.1
  have q74 := p60.2.1
  have q75 := p60.2.2.1
  have c76 : NM m m45 tg45 := NM_t c35 hx48 c66
  refine Or.inr (Or.inl ⟨_, rfl, ?_⟩)
  refine jx_ld (pc_q := 9) (l_q := jSto1 L0 1 (rv (r47))) (st_q := []) rfl (js_rvn (by decide)) ?_
  obtain ⟨L77, eL77⟩ : ∃ q : jL, q = jSto1 L0 1 (rv (r47)) := ⟨_, rfl⟩
  rw [← eL77]
  have g78 : jGet L77 0 = some (rv (me)) := eL77 ▸ jg_nr (by decide) g1
  have g79 : jGet L77 1 = some (rv (r47)) := eL77 ▸ jg_eq
  clear eL77
  refine jx_ld (pc_q := 10) (l_q := L77) (st_q := [rv (me)]) rfl (jl_rvn g78) ?_
  refine cx_gr (pc_q := 13) (c := 8) (q := 1) (v := sc) rfl rfl (by decide) (by decide) rfl rfl ho69.1 ho69.2 (((show F46 (me) (1 : Int) = F5 (me) (1 : Int) from hM50 _ _ ho31.1 (own_z ho31.1) (by rw [ho31.2]; rfl)).trans (show F5 (me) (1 : Int) = F (me) (1 : Int) from hM9 _ _ o_me (own_z o_me) (by rw [t_me]; rfl))).trans e_sc) ?_
  refine cx_gi (pc_q := 16) (c := 10) (q := 16) (v := F (sc) (16 : Int)) rfl rfl (by decide) (by decide) (Or.inl rfl) rfl ho70.1 ho70.2 ((show F46 (sc) (16 : Int) = F5 (sc) (16 : Int) from hM50 _ _ ho32.1 (own_z ho32.1) (by rw [ho32.2]; rfl)).trans (show F5 (sc) (16 : Int) = F (sc) (16 : Int) from hM9 _ _ o_sc (own_z o_sc) (by rw [t_sc]; rfl))) ?_
  have b80 : (-2147483648 : Int) ≤ F (sc) (16 : Int) ∧ F (sc) (16 : Int) ≤ 2147483647 := by have z := HC_i (c := 10) (q := 16) hC49 ho70.1 ho70.2 (by decide) rfl; rw [show F46 (sc) ((16 : Nat) : Int) = F (sc) (16 : Int) from ((show F46 (sc) (16 : Int) = F5 (sc) (16 : Int) from hM50 _ _ ho32.1 (own_z ho32.1) (by rw [ho32.2]; rfl)).trans (show F5 (sc) (16 : Int) = F (sc) (16 : Int) from hM9 _ _ o_sc (own_z o_sc) (by rw [t_sc]; rfl)))] at z; exact z
  refine jx_ld (pc_q := 17) (l_q := jSto1 L77 2 (.int (i32 (F (sc) (16 : Int))))) (st_q := []) rfl rfl ?_
  obtain ⟨L81, eL81⟩ : ∃ q : jL, q = jSto1 L77 2 (.int (i32 (F (sc) (16 : Int)))) := ⟨_, rfl⟩
  rw [← eL81]
  have g82 : jGet L81 0 = some (rv (me)) := eL81 ▸ jg_nr (by decide) g78
  have g83 : jGet L81 1 = some (rv (r47)) := eL81 ▸ jg_nr (by decide) g79
  have g84 : jGet L81 2 = some (.int (i32 (F (sc) (16 : Int)))) := eL81 ▸ jg_eq
  clear eL81
  refine jx_ld (pc_q := 18) (l_q := L81) (st_q := [rv (me)]) rfl (jl_rvn g82) ?_
  refine cx_gr (pc_q := 21) (c := 8) (q := 1) (v := sc) rfl rfl (by decide) (by decide) rfl rfl ho69.1 ho69.2 (((show F46 (me) (1 : Int) = F5 (me) (1 : Int) from hM50 _ _ ho31.1 (own_z ho31.1) (by rw [ho31.2]; rfl)).trans (show F5 (me) (1 : Int) = F (me) (1 : Int) from hM9 _ _ o_me (own_z o_me) (by rw [t_me]; rfl))).trans e_sc) ?_
  have q85 : F46 (sc) (8 : Int) = F (sc) (8 : Int) := ((show F46 (sc) (8 : Int) = F5 (sc) (8 : Int) from hM50 _ _ ho32.1 (own_z ho32.1) (by rw [ho32.2]; rfl)).trans (show F5 (sc) (8 : Int) = F (sc) (8 : Int) from hM9 _ _ o_sc (own_z o_sc) (by rw [t_sc]; rfl)))
  have q86 : F46 (sc) (15 : Int) = F (sc) (15 : Int) := ((show F46 (sc) (15 : Int) = F5 (sc) (15 : Int) from hM50 _ _ ho32.1 (own_z ho32.1) (by rw [ho32.2]; rfl)).trans (show F5 (sc) (15 : Int) = F (sc) (15 : Int) from hM9 _ _ o_sc (own_z o_sc) (by rw [t_sc]; rfl)))
  have q87 : tz (F46 (sc) (15 : Int)) = tz (F (sc) (15 : Int)) := by rw [q86]
  have q88 := tz_b (F (sc) (15 : Int))
  have q89 : F46 (sc) (7 : Int) = F (sc) (7 : Int) := ((show F46 (sc) (7 : Int) = F5 (sc) (7 : Int) from hM50 _ _ ho32.1 (own_z ho32.1) (by rw [ho32.2]; rfl)).trans (show F5 (sc) (7 : Int) = F (sc) (7 : Int) from hM9 _ _ o_sc (own_z o_sc) (by rw [t_sc]; rfl)))
  have q90 : F46 (sc) (14 : Int) = F (sc) (14 : Int) := ((show F46 (sc) (14 : Int) = F5 (sc) (14 : Int) from hM50 _ _ ho32.1 (own_z ho32.1) (by rw [ho32.2]; rfl)).trans (show F5 (sc) (14 : Int) = F (sc) (14 : Int) from hM9 _ _ o_sc (own_z o_sc) (by rw [t_sc]; rfl)))
  have q91 : lz (F46 (sc) (14 : Int)) = lz (F (sc) (14 : Int)) := by rw [q90]
  have q92 := lz_b (F (sc) (14 : Int))
  refine cx_vi (c := 10) (a := sc) (st := []) (as := []) rfl rfl rfl ho70.1 ho70.2 (by decide) rfl ⟨rfl, rfl, (Nat.le_of_ble_eq_true rfl)⟩ rfl (k_LScanner_next (dd := d) (R := R) (m := m45) (tg := tg45) (ln := ln45) (F := F46) (me := sc) (hd := by omega) (hC := hC49) (o_me := ho70.1) (t_me := ho70.2) (p_0 := by omega) (p_1 := by omega)) (fun o V_q hq => ?_)
  obtain ⟨F93, rfl, rfl, hC94, hM95, p96, p97, p98, -⟩ := hq
  have hM99 : Fq 0 [(9, 3), (10, 0), (10, 1), (10, 2), (10, 9), (11, 8), (11, 12), (11, 13), (11, 14), (11, 15), (11, 16), (11, 17), (11, 18)] m tg F F93 := Fq_t (ln := ln) (ln1 := ln45) hM67 hX72 hM95 (by decide) (Or.inl rfl)
  have w100 : WK F93 r47 (1) := WK_q p60 hC49 b51.1 b51.2 hM95 rfl
  have c101 : NP m45 tg45 F93 := NP_q hC49 c65 hM95 rfl rfl
  refine Or.inl ⟨rfl, ?_⟩
  refine jx_ld (pc_q := 25) (l_q := L81) (st_q := [rv (me)]) rfl (jl_rvn g82) ?_
  refine cx_gr (pc_q := 28) (c := 8) (q := 1) (v := sc) rfl rfl (by decide) (by decide) rfl rfl ho69.1 ho69.2 (((show F93 (me) (1 : Int) = F46 (me) (1 : Int) from hM95 _ _ ho69.1 (own_z ho69.1) (by rw [ho69.2]; rfl)).trans ((show F46 (me) (1 : Int) = F5 (me) (1 : Int) from hM50 _ _ ho31.1 (own_z ho31.1) (by rw [ho31.2]; rfl)).trans (show F5 (me) (1 : Int) = F (me) (1 : Int) from hM9 _ _ o_me (own_z o_me) (by rw [t_me]; rfl)))).trans e_sc) ?_
  refine cx_gi (pc_q := 31) (c := 10) (q := 15) (v := F93 (sc) (15 : Int)) rfl rfl (by decide) (by decide) (Or.inl rfl) rfl ho70.1 ho70.2 rfl ?_
  have b102 : (-2147483648 : Int) ≤ F93 (sc) (15 : Int) ∧ F93 (sc) (15 : Int) ≤ 2147483647 := by have z := HC_i (c := 10) (q := 15) hC94 ho70.1 ho70.2 (by decide) rfl; rw [show F93 (sc) ((15 : Nat) : Int) = F93 (sc) (15 : Int) from rfl] at z; exact z
  refine jx_ar (pc_q := 33) (st_q := [.int (i32 (56)), .int (i32 (F93 (sc) (15 : Int)))]) rfl rfl rfl rfl ?_
  refine jx_icmp_ne (pc_q := 36) (tg := 70) rfl rfl rfl (by omega) (by omega) (by decide) (by decide) (fun h103 => ?_) (fun h103 => ?_)
  · have _q := h103
    refine jx_ld (pc_q := 71) (l_q := L81) (st_q := [rv (r47)]) rfl (jl_rvn g83) ?_
    refine jx_rt (v := some (rv (r47))) rfl rfl rfl rfl rfl jr_are ?_
    have q104 : F93 (sc) (7 : Int) = F (sc) (7 : Int) := ((show F93 (sc) (7 : Int) = F46 (sc) (7 : Int) from hM95 _ _ ho70.1 (own_z ho70.1) (by rw [ho70.2]; rfl)).trans ((show F46 (sc) (7 : Int) = F5 (sc) (7 : Int) from hM50 _ _ ho32.1 (own_z ho32.1) (by rw [ho32.2]; rfl)).trans (show F5 (sc) (7 : Int) = F (sc) (7 : Int) from hM9 _ _ o_sc (own_z o_sc) (by rw [t_sc]; rfl))))
    have q105 : F93 (pg) (9 : Int) = F46 (pg) (9 : Int) := (show F93 (pg) (9 : Int) = F46 (pg) (9 : Int) from hM95 _ _ ho71.1 (own_z ho71.1) (by rw [ho71.2]; rfl))
    have q106 : F93 (me) (3 : Int) = F (me) (3 : Int) := ((show F93 (me) (3 : Int) = F46 (me) (3 : Int) from hM95 _ _ ho69.1 (own_z ho69.1) (by rw [ho69.2]; rfl)).trans ((show F46 (me) (3 : Int) = F5 (me) (3 : Int) from hM50 _ _ ho31.1 (own_z ho31.1) (by rw [ho31.2]; rfl)).trans (show F5 (me) (3 : Int) = F (me) (3 : Int) from hM9 _ _ o_me (own_z o_me) (by rw [t_me]; rfl))))
    have q107 := tz_b (F93 (sc) (15 : Int))
    have q108 := lz_b (F93 (sc) (14 : Int))
    have q109 : F93 (pg) (9 : Int) = F46 (pg) (9 : Int) := (show F93 (pg) (9 : Int) = F46 (pg) (9 : Int) from hM95 _ _ ho71.1 (own_z ho71.1) (by rw [ho71.2]; rfl))
    have q110 : F93 (r47) (0 : Int) = F46 (r47) (0 : Int) := (show F93 (r47) (0 : Int) = F46 (r47) (0 : Int) from hM95 _ _ b51.1 (own_z b51.1) (by rw [b51.2]; rfl))
    have q111 : F93 (me) (3 : Int) = F (me) (3 : Int) := ((show F93 (me) (3 : Int) = F46 (me) (3 : Int) from hM95 _ _ ho69.1 (own_z ho69.1) (by rw [ho69.2]; rfl)).trans ((show F46 (me) (3 : Int) = F5 (me) (3 : Int) from hM50 _ _ ho31.1 (own_z ho31.1) (by rw [ho31.2]; rfl)).trans (show F5 (me) (3 : Int) = F (me) (3 : Int) from hM9 _ _ o_me (own_z o_me) (by rw [t_me]; rfl))))
    have q112 : F93 (r47) (3 : Int) = F46 (r47) (3 : Int) := (show F93 (r47) (3 : Int) = F46 (r47) (3 : Int) from hM95 _ _ b51.1 (own_z b51.1) (by rw [b51.2]; rfl))
    exact Or.inl ⟨m45, tg45, ln45, F93, (r47), rfl, rfl, hX72, hC94, hM99, ⟨b51.1, b51.2⟩, by omega, by omega, by omega, by omega, by omega, by omega, by omega, by omega, (WK_m w100 (by omega)), by omega, by omega, by omega, c101, c76, trivial⟩
  · have _q := h103
    have t113 : tz (F93 (sc) (15 : Int)) = 1 := tz_p (by omega)
    refine jx_ld (pc_q := 37) (l_q := L81) (st_q := [rv (r47)]) rfl (jl_rvn g83) ?_
    refine cx_gr (pc_q := 40) (c := 7) (q := 3) (v := F46 (r47) (3 : Int)) rfl rfl (by decide) (by decide) rfl rfl b51.1 b51.2 (show F93 (r47) (3 : Int) = F46 (r47) (3 : Int) from hM95 _ _ b51.1 (own_z b51.1) (by rw [b51.2]; rfl)) ?_
    have y114 : F46 (r47) (3 : Int) = 0 ∨ (own m45 (F46 (r47) (3 : Int)) ∧ tg45 (F46 (r47) (3 : Int)) = 7) := by have z := HC_r (c := 7) (q := 3) hC94 b51.1 b51.2 (by decide) rfl; rw [show F93 (r47) ((3 : Nat) : Int) = F46 (r47) (3 : Int) from (show F93 (r47) (3 : Int) = F46 (r47) (3 : Int) from hM95 _ _ b51.1 (own_z b51.1) (by rw [b51.2]; rfl))] at z; exact z
    have hn115 : F46 (r47) (3 : Int) ≠ 0 := by omega
    have ho116 : own m45 (F46 (r47) (3 : Int)) ∧ tg45 (F46 (r47) (3 : Int)) = 7 := y114.resolve_left hn115
    refine cx_vi (c := 6) (a := F46 (r47) (3 : Int)) (st := []) (as := []) rfl rfl rfl ho116.1 ho116.2 (by decide) rfl ⟨rfl, rfl, (Nat.le_of_ble_eq_true rfl)⟩ rfl (k_LName_isRow (dd := d) (R := R) (m := m45) (tg := tg45) (ln := ln45) (F := F93) (me := F46 (r47) (3 : Int)) (hd := by omega) (hC := hC94) (o_me := ho116.1) (t_me := ho116.2)) (fun o V_q hq => ?_)
    obtain ⟨r117, rfl, rfl, b118, -⟩ := hq
    refine Or.inr (Or.inl ⟨_, rfl, ?_⟩)
    refine jx_if_ne (pc_q := 46) (tg := 52) rfl rfl rfl (by omega) (by omega) (fun h119 => ?_) (fun h119 => ?_)
    · have _q := h119
      refine jx_ld (pc_q := 53) (l_q := L81) (st_q := [rv (me)]) rfl (jl_rvn g82) ?_
      have b120 : (0 : Int) ≤ F (me) (3 : Int) ∧ F (me) (3 : Int) ≤ 8 := by have z := HC_i (c := 8) (q := 3) hC94 ho69.1 ho69.2 (by decide) rfl; rw [show F93 (me) ((3 : Nat) : Int) = F (me) (3 : Int) from ((show F93 (me) (3 : Int) = F46 (me) (3 : Int) from hM95 _ _ ho69.1 (own_z ho69.1) (by rw [ho69.2]; rfl)).trans ((show F46 (me) (3 : Int) = F5 (me) (3 : Int) from hM50 _ _ ho31.1 (own_z ho31.1) (by rw [ho31.2]; rfl)).trans (show F5 (me) (3 : Int) = F (me) (3 : Int) from hM9 _ _ o_me (own_z o_me) (by rw [t_me]; rfl))))] at z; exact z
      have q121 := tz_b (F93 (sc) (15 : Int))
      have q122 : F93 (sc) (7 : Int) = F (sc) (7 : Int) := ((show F93 (sc) (7 : Int) = F46 (sc) (7 : Int) from hM95 _ _ ho70.1 (own_z ho70.1) (by rw [ho70.2]; rfl)).trans ((show F46 (sc) (7 : Int) = F5 (sc) (7 : Int) from hM50 _ _ ho32.1 (own_z ho32.1) (by rw [ho32.2]; rfl)).trans (show F5 (sc) (7 : Int) = F (sc) (7 : Int) from hM9 _ _ o_sc (own_z o_sc) (by rw [t_sc]; rfl))))
      have q123 := lz_b (F93 (sc) (14 : Int))
      have q124 : F93 (pg) (9 : Int) = F46 (pg) (9 : Int) := (show F93 (pg) (9 : Int) = F46 (pg) (9 : Int) from hM95 _ _ ho71.1 (own_z ho71.1) (by rw [ho71.2]; rfl))
      have q125 : F93 (me) (3 : Int) = F (me) (3 : Int) := ((show F93 (me) (3 : Int) = F46 (me) (3 : Int) from hM95 _ _ ho69.1 (own_z ho69.1) (by rw [ho69.2]; rfl)).trans ((show F46 (me) (3 : Int) = F5 (me) (3 : Int) from hM50 _ _ ho31.1 (own_z ho31.1) (by rw [ho31.2]; rfl)).trans (show F5 (me) (3 : Int) = F (me) (3 : Int) from hM9 _ _ o_me (own_z o_me) (by rw [t_me]; rfl))))
      refine cx_vi (c := 8) (a := me) (st := []) (as := []) rfl rfl rfl ho69.1 ho69.2 (by decide) rfl ⟨rfl, rfl, (Nat.le_of_ble_eq_true rfl)⟩ rfl (k_LParser_openBracket (dd := d) (R := R) (m := m45) (tg := tg45) (ln := ln45) (F := F93) (me := me) (hd := by omega) (hC := hC94) (o_me := ho69.1) (t_me := ho69.2) (sc := sc) (pg := pg) (o_sc := ho70.1) (t_sc := ho70.2) (e_sc := (((show F93 (me) (1 : Int) = F46 (me) (1 : Int) from hM95 _ _ ho69.1 (own_z ho69.1) (by rw [ho69.2]; rfl)).trans ((show F46 (me) (1 : Int) = F5 (me) (1 : Int) from hM50 _ _ ho31.1 (own_z ho31.1) (by rw [ho31.2]; rfl)).trans (show F5 (me) (1 : Int) = F (me) (1 : Int) from hM9 _ _ o_me (own_z o_me) (by rw [t_me]; rfl)))).trans e_sc)) (o_pg := ho71.1) (t_pg := ho71.2) (e_pg := (((show F93 (me) (0 : Int) = F46 (me) (0 : Int) from hM95 _ _ ho69.1 (own_z ho69.1) (by rw [ho69.2]; rfl)).trans ((show F46 (me) (0 : Int) = F5 (me) (0 : Int) from hM50 _ _ ho31.1 (own_z ho31.1) (by rw [ho31.2]; rfl)).trans (show F5 (me) (0 : Int) = F (me) (0 : Int) from hM9 _ _ o_me (own_z o_me) (by rw [t_me]; rfl)))).trans e_pg)) (p_0 := by omega) (p_1 := by omega) (p_2 := by omega) (p_3 := by omega) (c_NP := c101)) (fun o V_q hq => ?_)
      obtain ⟨m126, tg126, ln126, F127, rfl, rfl, hx128, hC129, hM130, p131, p132, p133, p134, p135, p136, p137, p138, p139, c140, c141, -⟩ | ⟨m142, tg142, ln142, F142, x142, rfl, rfl, hx142, hC142, hM142, ho142, ht142, p143, p144, p145, p146, c147, c148, -⟩ := hq
      rotate_left
      ·
        have c149 : NM m m142 tg142 := NM_t c76 hx142 c148
        have lm150 := hx142.1
        refine Or.inr (Or.inr (Or.inr ⟨_, _, rfl, cx_exc (c := 15) ho142 ht142 (by decide), rfl, ?_⟩))
        have q151 : F93 (sc) (7 : Int) = F (sc) (7 : Int) := ((show F93 (sc) (7 : Int) = F46 (sc) (7 : Int) from hM95 _ _ ho70.1 (own_z ho70.1) (by rw [ho70.2]; rfl)).trans ((show F46 (sc) (7 : Int) = F5 (sc) (7 : Int) from hM50 _ _ ho32.1 (own_z ho32.1) (by rw [ho32.2]; rfl)).trans (show F5 (sc) (7 : Int) = F (sc) (7 : Int) from hM9 _ _ o_sc (own_z o_sc) (by rw [t_sc]; rfl))))
        exact Or.inr ⟨m142, tg142, ln142, F142, x142, rfl, rfl, Ex_t hX72 hx142, hC142, Fq_t (ln := ln) (ln1 := ln45) hM99 hX72 hM142 (by decide) (Or.inl rfl), (And.intro ho142 ht142).1, (And.intro ho142 ht142).2, by omega, by omega, by omega, by omega, c147, c149, trivial⟩
      have hM152 : Fq 0 [(9, 3), (10, 0), (10, 1), (10, 2), (10, 9), (11, 8), (11, 12), (11, 13), (11, 14), (11, 15), (11, 16), (11, 17), (11, 18)] m tg F F127 := Fq_t (ln := ln) (ln1 := ln45) hM99 hX72 hM130 (by decide) (Or.inl rfl)
      have lm153 := hx128.1
      have lt154 : r47 < 64 + (m45 : Int) := b51.1.2.1
      have ho155 : own m126 (me) ∧ tg126 (me) = 9 := Ex_o hx128 ⟨ho69.1, ho69.2⟩
      have ho156 : own m126 (r47) ∧ tg126 (r47) = 8 := Ex_o hx128 ⟨b51.1, b51.2⟩
      have ho157 : own m126 (sc) ∧ tg126 (sc) = 11 := Ex_o hx128 ⟨ho70.1, ho70.2⟩
      have ho158 : own m126 (pg) ∧ tg126 (pg) = 10 := Ex_o hx128 ⟨ho71.1, ho71.2⟩
      have hX159 := Ex_t hX72 hx128
      have w160 : WK F127 r47 (1) := WK_q w100 hC94 b51.1 b51.2 hM130 rfl
      have c161 : NM m m126 tg126 := NM_t c76 hx128 c141
      refine Or.inl ⟨rfl, ?_⟩
      refine jx_ld (pc_q := 57) (l_q := L81) (st_q := [rv (r47)]) rfl (jl_rvn g83) ?_
      refine jx_ld (pc_q := 58) (l_q := L81) (st_q := [rv (me), rv (r47)]) rfl (jl_rvn g82) ?_
      have b162 : (0 : Int) ≤ F127 (me) (3 : Int) ∧ F127 (me) (3 : Int) ≤ 8 := by have z := HC_i (c := 8) (q := 3) hC129 ho155.1 ho155.2 (by decide) rfl; exact z
      have q163 := tz_b (F127 (sc) (15 : Int))
      have q164 : F127 (sc) (7 : Int) = F (sc) (7 : Int) := ((show F127 (sc) (7 : Int) = F93 (sc) (7 : Int) from hM130 _ _ ho70.1 (own_z ho70.1) (by rw [ho70.2]; rfl)).trans ((show F93 (sc) (7 : Int) = F46 (sc) (7 : Int) from hM95 _ _ ho70.1 (own_z ho70.1) (by rw [ho70.2]; rfl)).trans ((show F46 (sc) (7 : Int) = F5 (sc) (7 : Int) from hM50 _ _ ho32.1 (own_z ho32.1) (by rw [ho32.2]; rfl)).trans (show F5 (sc) (7 : Int) = F (sc) (7 : Int) from hM9 _ _ o_sc (own_z o_sc) (by rw [t_sc]; rfl)))))
      have q165 := lz_b (F127 (sc) (14 : Int))
      have q166 : F127 (pg) (9 : Int) = F46 (pg) (9 : Int) := ((show F127 (pg) (9 : Int) = F93 (pg) (9 : Int) from hM130 _ _ ho71.1 (own_z ho71.1) (by rw [ho71.2]; rfl)).trans (show F93 (pg) (9 : Int) = F46 (pg) (9 : Int) from hM95 _ _ ho71.1 (own_z ho71.1) (by rw [ho71.2]; rfl)))
      have hE167 := hE (by omega)
      refine cx_vi (c := 8) (a := me) (st := [rv (r47)]) (as := []) rfl rfl rfl ho155.1 ho155.2 (by decide) rfl ⟨rfl, rfl, (by rw [jS_r, jS_0]; exact Nat.le_of_ble_eq_true rfl)⟩ rfl (hE167 (dd := d) (R := R) (m := m126) (tg := tg126) (ln := ln126) (F := F127) (me := me) (hd := by omega) (hC := hC129) (o_me := ho155.1) (t_me := ho155.2) (sc := sc) (pg := pg) (o_sc := ho157.1) (t_sc := ho157.2) (e_sc := (((show F127 (me) (1 : Int) = F93 (me) (1 : Int) from hM130 _ _ ho69.1 (own_z ho69.1) (by rw [ho69.2]; rfl)).trans ((show F93 (me) (1 : Int) = F46 (me) (1 : Int) from hM95 _ _ ho69.1 (own_z ho69.1) (by rw [ho69.2]; rfl)).trans ((show F46 (me) (1 : Int) = F5 (me) (1 : Int) from hM50 _ _ ho31.1 (own_z ho31.1) (by rw [ho31.2]; rfl)).trans (show F5 (me) (1 : Int) = F (me) (1 : Int) from hM9 _ _ o_me (own_z o_me) (by rw [t_me]; rfl))))).trans e_sc)) (o_pg := ho158.1) (t_pg := ho158.2) (e_pg := (((show F127 (me) (0 : Int) = F93 (me) (0 : Int) from hM130 _ _ ho69.1 (own_z ho69.1) (by rw [ho69.2]; rfl)).trans ((show F93 (me) (0 : Int) = F46 (me) (0 : Int) from hM95 _ _ ho69.1 (own_z ho69.1) (by rw [ho69.2]; rfl)).trans ((show F46 (me) (0 : Int) = F5 (me) (0 : Int) from hM50 _ _ ho31.1 (own_z ho31.1) (by rw [ho31.2]; rfl)).trans (show F5 (me) (0 : Int) = F (me) (0 : Int) from hM9 _ _ o_me (own_z o_me) (by rw [t_me]; rfl))))).trans e_pg)) (p_0 := by omega) (p_1 := by omega) (p_2 := by omega) (p_3 := by omega) (c_NP := c140)) (fun o V_q hq => ?_)
      obtain ⟨m168, tg168, ln168, F169, r170, rfl, rfl, hx171, hC172, hM173, b174, p175, p176, p177, p178, p179, p180, p181, p182, p183, p184, p185, c186, c187, -⟩ | ⟨m188, tg188, ln188, F188, x188, rfl, rfl, hx188, hC188, hM188, ho188, ht188, p189, p190, p191, p192, c193, c194, -⟩ := hq
      rotate_left
      ·
        have c195 : NM m m188 tg188 := NM_t c161 hx188 c194
        have lm196 := hx188.1
        refine Or.inr (Or.inr (Or.inr ⟨_, _, rfl, cx_exc (c := 15) ho188 ht188 (by decide), rfl, ?_⟩))
        have q197 : F127 (sc) (7 : Int) = F (sc) (7 : Int) := ((show F127 (sc) (7 : Int) = F93 (sc) (7 : Int) from hM130 _ _ ho70.1 (own_z ho70.1) (by rw [ho70.2]; rfl)).trans ((show F93 (sc) (7 : Int) = F46 (sc) (7 : Int) from hM95 _ _ ho70.1 (own_z ho70.1) (by rw [ho70.2]; rfl)).trans ((show F46 (sc) (7 : Int) = F5 (sc) (7 : Int) from hM50 _ _ ho32.1 (own_z ho32.1) (by rw [ho32.2]; rfl)).trans (show F5 (sc) (7 : Int) = F (sc) (7 : Int) from hM9 _ _ o_sc (own_z o_sc) (by rw [t_sc]; rfl)))))
        exact Or.inr ⟨m188, tg188, ln188, F188, x188, rfl, rfl, Ex_t hX159 hx188, hC188, Fq_t (ln := ln) (ln1 := ln126) hM152 hX159 hM188 (by decide) (Or.inl rfl), (And.intro ho188 ht188).1, (And.intro ho188 ht188).2, by omega, by omega, by omega, by omega, c193, c195, trivial⟩
      have hM198 : Fq 0 [(9, 3), (10, 0), (10, 1), (10, 2), (10, 9), (11, 8), (11, 12), (11, 13), (11, 14), (11, 15), (11, 16), (11, 17), (11, 18)] m tg F F169 := Fq_t (ln := ln) (ln1 := ln126) hM152 hX159 hM173 (by decide) (Or.inl rfl)
      have lm199 := hx171.1
      have lt200 : r47 < 64 + (m126 : Int) := ho156.1.2.1
      have ho201 : own m168 (me) ∧ tg168 (me) = 9 := Ex_o hx171 ⟨ho155.1, ho155.2⟩
      have ho202 : own m168 (r47) ∧ tg168 (r47) = 8 := Ex_o hx171 ⟨ho156.1, ho156.2⟩
      have ho203 : own m168 (sc) ∧ tg168 (sc) = 11 := Ex_o hx171 ⟨ho157.1, ho157.2⟩
      have ho204 : own m168 (pg) ∧ tg168 (pg) = 10 := Ex_o hx171 ⟨ho158.1, ho158.2⟩
      have hX205 := Ex_t hX159 hx171
      have w206 : WK F169 r47 (1) := WK_q w160 hC129 ho156.1 ho156.2 hM173 rfl
      have q207 := p183.1
      have q208 := p183.2.1
      have q209 := p183.2.2.1
      have c210 : NM m m168 tg168 := NM_t c161 hx171 c187
      refine Or.inr (Or.inl ⟨_, rfl, ?_⟩)
      have q211 := p183.1
      have q212 := p183.2.1
      have q213 := p183.2.2.1
      rw [← cV_gh (F := F169) (a := r170) (j := 100) (z := 16 - 2 * F me (3 : Int)) (Or.inr ⟨by decide, by rw [b174.2]; decide⟩)]
      obtain ⟨F214, eF214⟩ : ∃ q, q = uF F169 (r170) (100 : Int) (16 - 2 * F me (3 : Int)) := ⟨_, rfl⟩
      rw [← eF214]
      have hC215 : HC 0 m168 tg168 ln168 F214 := by rw [eF214]; exact HC_gh hC172 (by rw [b174.2]; decide) (by decide)
      have hM216 : Fq 0 [(9, 3), (10, 0), (10, 1), (10, 2), (10, 9), (11, 8), (11, 12), (11, 13), (11, 14), (11, 15), (11, 16), (11, 17), (11, 18)] m tg F F214 := by rw [eF214]; exact Fq_x hM198 (Or.inr (by have := hX205.1; omega))
      have w217 : WK F214 r47 (1) := by rw [eF214]; exact WK_un w206 hC172 ho202.1 ho202.2 b174.2 (by omega) (by omega)
      rw [← cV_gh (F := F214) (a := r170) (j := 103) (z := 1) (Or.inr ⟨by decide, by rw [b174.2]; decide⟩)]
      obtain ⟨F218, eF218⟩ : ∃ q, q = uF F214 (r170) (103 : Int) (1) := ⟨_, rfl⟩
      rw [← eF218]
      have hC219 : HC 0 m168 tg168 ln168 F218 := by rw [eF218]; exact HC_gh hC215 (by rw [b174.2]; decide) (by decide)
      have hM220 : Fq 0 [(9, 3), (10, 0), (10, 1), (10, 2), (10, 9), (11, 8), (11, 12), (11, 13), (11, 14), (11, 15), (11, 16), (11, 17), (11, 18)] m tg F F218 := by rw [eF218]; exact Fq_x hM216 (Or.inr (by have := hX205.1; omega))
      have w221 : WK F218 r47 (1) := by rw [eF218]; exact WK_un w217 hC215 ho202.1 ho202.2 b174.2 (by rw [show F214 (r170) (103 : Int) = F169 (r170) (103 : Int) from (show F214 (r170) (103 : Int) = F169 (r170) (103 : Int) from by rw [eF214]; exact uF_j (by decide))]; omega) (by omega)
      have c222 : NP m168 tg168 F218 := by rw [eF218, eF214]; exact NP_seal hC172 c186 b174.1 b174.2 p183 (by omega)
      refine cx_po (pc_q := 64) (c := 7) (q := 4) (qi := (4 : Int)) (z := r170) rfl rfl (by decide) (by decide) rfl rfl rfl (by decide) rfl ho202.1 ho202.2 rfl ?_
      obtain ⟨F223, eF223⟩ : ∃ q, q = uF F218 (r47) (4 : Int) (r170) := ⟨_, rfl⟩
      rw [← eF223]
      have hC224 : HC 0 m168 tg168 ln168 F223 := by rw [eF223]; exact HC_fr (c := 7) (q := 4) (by decide) hC219 ho202.2 (by decide) rfl (Or.inr ⟨b174.1, b174.2⟩) ⟨fun w => absurd w (by decide), fun w => absurd w (by decide)⟩
      have hM225 : Fq 0 [(9, 3), (10, 0), (10, 1), (10, 2), (10, 9), (11, 8), (11, 12), (11, 13), (11, 14), (11, 15), (11, 16), (11, 17), (11, 18)] m tg F F223 := by rw [eF223]; exact Fq_x hM220 (Or.inr (by have := hX72.1; omega))
      have w226 : WK F223 r47 (17 - 2 * F me (3 : Int)) := by rw [eF223]; exact WK_s (WK_m w221 (by omega)) (by omega) (show F218 (r170) (103 : Int) = 1 from by rw [eF218]; exact uF_e) (by rw [show F218 (r170) (100 : Int) = 16 - 2 * F me (3 : Int) from ((show F218 (r170) (100 : Int) = F214 (r170) (100 : Int) from by rw [eF218]; exact uF_j (by decide)).trans (show F214 (r170) (100 : Int) = 16 - 2 * F me (3 : Int) from by rw [eF214]; exact uF_e))]; omega) (by rw [show F218 (r170) (100 : Int) = 16 - 2 * F me (3 : Int) from ((show F218 (r170) (100 : Int) = F214 (r170) (100 : Int) from by rw [eF218]; exact uF_j (by decide)).trans (show F214 (r170) (100 : Int) = 16 - 2 * F me (3 : Int) from by rw [eF214]; exact uF_e))]; omega) (by rw [show F218 (r47) (0 : Int) = F46 (r47) (0 : Int) from ((show F218 (r47) (0 : Int) = F214 (r47) (0 : Int) from by rw [eF218]; exact uF_j (by decide)).trans ((show F214 (r47) (0 : Int) = F169 (r47) (0 : Int) from by rw [eF214]; exact uF_j (by decide)).trans ((show F169 (r47) (0 : Int) = F127 (r47) (0 : Int) from hM173 _ _ ho156.1 (own_z ho156.1) (by rw [ho156.2]; rfl)).trans ((show F127 (r47) (0 : Int) = F93 (r47) (0 : Int) from hM130 _ _ b51.1 (own_z b51.1) (by rw [b51.2]; rfl)).trans (show F93 (r47) (0 : Int) = F46 (r47) (0 : Int) from hM95 _ _ b51.1 (own_z b51.1) (by rw [b51.2]; rfl))))))]; omega)
      have c227 : NP m168 tg168 F223 := by rw [eF223]; exact NP_un hC219 c222 ho202.1 ho202.2 (by rw [show F218 (r47) (103 : Int) = F46 (r47) (103 : Int) from ((show F218 (r47) (103 : Int) = F214 (r47) (103 : Int) from by rw [eF218]; exact uF_a (by omega)).trans ((show F214 (r47) (103 : Int) = F169 (r47) (103 : Int) from by rw [eF214]; exact uF_j (by decide)).trans ((show F169 (r47) (103 : Int) = F127 (r47) (103 : Int) from hM173 _ _ ho156.1 (own_z ho156.1) (by rw [ho156.2]; rfl)).trans ((show F127 (r47) (103 : Int) = F93 (r47) (103 : Int) from hM130 _ _ b51.1 (own_z b51.1) (by rw [b51.2]; rfl)).trans (show F93 (r47) (103 : Int) = F46 (r47) (103 : Int) from hM95 _ _ b51.1 (own_z b51.1) (by rw [b51.2]; rfl))))))]; omega) (by decide) (Or.inl (by decide))
      refine jx_ld (pc_q := 65) (l_q := L81) (st_q := [rv (me)]) rfl (jl_rvn g82) ?_
      refine jx_ar (pc_q := 67) (st_q := [.int (i32 (57)), rv (me)]) rfl rfl rfl rfl ?_
      have b228 : (0 : Int) ≤ F169 (me) (3 : Int) ∧ F169 (me) (3 : Int) ≤ 8 := by have z := HC_i (c := 8) (q := 3) hC224 ho201.1 ho201.2 (by decide) rfl; rw [show F223 (me) ((3 : Nat) : Int) = F169 (me) (3 : Int) from ((show F223 (me) (3 : Int) = F218 (me) (3 : Int) from by rw [eF223]; exact uF_j (by decide)).trans ((show F218 (me) (3 : Int) = F214 (me) (3 : Int) from by rw [eF218]; exact uF_j (by decide)).trans (show F214 (me) (3 : Int) = F169 (me) (3 : Int) from by rw [eF214]; exact uF_j (by decide))))] at z; exact z
      have q229 : F223 (sc) (8 : Int) = F169 (sc) (8 : Int) := ((show F223 (sc) (8 : Int) = F218 (sc) (8 : Int) from by rw [eF223]; exact uF_j (by decide)).trans ((show F218 (sc) (8 : Int) = F214 (sc) (8 : Int) from by rw [eF218]; exact uF_j (by decide)).trans (show F214 (sc) (8 : Int) = F169 (sc) (8 : Int) from by rw [eF214]; exact uF_j (by decide))))
      have q230 : F223 (sc) (15 : Int) = F169 (sc) (15 : Int) := ((show F223 (sc) (15 : Int) = F218 (sc) (15 : Int) from by rw [eF223]; exact uF_j (by decide)).trans ((show F218 (sc) (15 : Int) = F214 (sc) (15 : Int) from by rw [eF218]; exact uF_j (by decide)).trans (show F214 (sc) (15 : Int) = F169 (sc) (15 : Int) from by rw [eF214]; exact uF_j (by decide))))
      have q231 : tz (F223 (sc) (15 : Int)) = tz (F169 (sc) (15 : Int)) := by rw [q230]
      have q232 := tz_b (F169 (sc) (15 : Int))
      have q233 : F223 (sc) (7 : Int) = F (sc) (7 : Int) := ((show F223 (sc) (7 : Int) = F218 (sc) (7 : Int) from by rw [eF223]; exact uF_j (by decide)).trans ((show F218 (sc) (7 : Int) = F214 (sc) (7 : Int) from by rw [eF218]; exact uF_j (by decide)).trans ((show F214 (sc) (7 : Int) = F169 (sc) (7 : Int) from by rw [eF214]; exact uF_j (by decide)).trans ((show F169 (sc) (7 : Int) = F127 (sc) (7 : Int) from hM173 _ _ ho157.1 (own_z ho157.1) (by rw [ho157.2]; rfl)).trans ((show F127 (sc) (7 : Int) = F93 (sc) (7 : Int) from hM130 _ _ ho70.1 (own_z ho70.1) (by rw [ho70.2]; rfl)).trans ((show F93 (sc) (7 : Int) = F46 (sc) (7 : Int) from hM95 _ _ ho70.1 (own_z ho70.1) (by rw [ho70.2]; rfl)).trans ((show F46 (sc) (7 : Int) = F5 (sc) (7 : Int) from hM50 _ _ ho32.1 (own_z ho32.1) (by rw [ho32.2]; rfl)).trans (show F5 (sc) (7 : Int) = F (sc) (7 : Int) from hM9 _ _ o_sc (own_z o_sc) (by rw [t_sc]; rfl)))))))))
      have q234 : F223 (sc) (14 : Int) = F169 (sc) (14 : Int) := ((show F223 (sc) (14 : Int) = F218 (sc) (14 : Int) from by rw [eF223]; exact uF_j (by decide)).trans ((show F218 (sc) (14 : Int) = F214 (sc) (14 : Int) from by rw [eF218]; exact uF_j (by decide)).trans (show F214 (sc) (14 : Int) = F169 (sc) (14 : Int) from by rw [eF214]; exact uF_j (by decide))))
      have q235 : lz (F223 (sc) (14 : Int)) = lz (F169 (sc) (14 : Int)) := by rw [q234]
      have q236 := lz_b (F169 (sc) (14 : Int))
      have q237 : F223 (me) (3 : Int) = F169 (me) (3 : Int) := ((show F223 (me) (3 : Int) = F218 (me) (3 : Int) from by rw [eF223]; exact uF_j (by decide)).trans ((show F218 (me) (3 : Int) = F214 (me) (3 : Int) from by rw [eF218]; exact uF_j (by decide)).trans (show F214 (me) (3 : Int) = F169 (me) (3 : Int) from by rw [eF214]; exact uF_j (by decide))))
      have q238 : F223 (pg) (9 : Int) = F169 (pg) (9 : Int) := ((show F223 (pg) (9 : Int) = F218 (pg) (9 : Int) from by rw [eF223]; exact uF_j (by decide)).trans ((show F218 (pg) (9 : Int) = F214 (pg) (9 : Int) from by rw [eF218]; exact uF_j (by decide)).trans (show F214 (pg) (9 : Int) = F169 (pg) (9 : Int) from by rw [eF214]; exact uF_j (by decide))))
      refine cx_vi (c := 8) (a := me) (st := []) (as := [.int (i32 (57))]) rfl rfl rfl ho201.1 ho201.2 (by decide) rfl ⟨rfl, rfl, (Nat.le_of_ble_eq_true rfl)⟩ rfl (k_LParser_closeBracket (dd := d) (R := R) (m := m168) (tg := tg168) (ln := ln168) (F := F223) (me := me) (tk := 57) (hd := by omega) (hC := hC224) (o_me := ho201.1) (t_me := ho201.2) (h_tk := by omega) (sc := sc) (pg := pg) (o_sc := ho203.1) (t_sc := ho203.2) (e_sc := (((show F223 (me) (1 : Int) = F218 (me) (1 : Int) from by rw [eF223]; exact uF_j (by decide)).trans ((show F218 (me) (1 : Int) = F214 (me) (1 : Int) from by rw [eF218]; exact uF_j (by decide)).trans ((show F214 (me) (1 : Int) = F169 (me) (1 : Int) from by rw [eF214]; exact uF_j (by decide)).trans ((show F169 (me) (1 : Int) = F127 (me) (1 : Int) from hM173 _ _ ho155.1 (own_z ho155.1) (by rw [ho155.2]; rfl)).trans ((show F127 (me) (1 : Int) = F93 (me) (1 : Int) from hM130 _ _ ho69.1 (own_z ho69.1) (by rw [ho69.2]; rfl)).trans ((show F93 (me) (1 : Int) = F46 (me) (1 : Int) from hM95 _ _ ho69.1 (own_z ho69.1) (by rw [ho69.2]; rfl)).trans ((show F46 (me) (1 : Int) = F5 (me) (1 : Int) from hM50 _ _ ho31.1 (own_z ho31.1) (by rw [ho31.2]; rfl)).trans (show F5 (me) (1 : Int) = F (me) (1 : Int) from hM9 _ _ o_me (own_z o_me) (by rw [t_me]; rfl))))))))).trans e_sc)) (o_pg := ho204.1) (t_pg := ho204.2) (e_pg := (((show F223 (me) (0 : Int) = F218 (me) (0 : Int) from by rw [eF223]; exact uF_j (by decide)).trans ((show F218 (me) (0 : Int) = F214 (me) (0 : Int) from by rw [eF218]; exact uF_j (by decide)).trans ((show F214 (me) (0 : Int) = F169 (me) (0 : Int) from by rw [eF214]; exact uF_j (by decide)).trans ((show F169 (me) (0 : Int) = F127 (me) (0 : Int) from hM173 _ _ ho155.1 (own_z ho155.1) (by rw [ho155.2]; rfl)).trans ((show F127 (me) (0 : Int) = F93 (me) (0 : Int) from hM130 _ _ ho69.1 (own_z ho69.1) (by rw [ho69.2]; rfl)).trans ((show F93 (me) (0 : Int) = F46 (me) (0 : Int) from hM95 _ _ ho69.1 (own_z ho69.1) (by rw [ho69.2]; rfl)).trans ((show F46 (me) (0 : Int) = F5 (me) (0 : Int) from hM50 _ _ ho31.1 (own_z ho31.1) (by rw [ho31.2]; rfl)).trans (show F5 (me) (0 : Int) = F (me) (0 : Int) from hM9 _ _ o_me (own_z o_me) (by rw [t_me]; rfl))))))))).trans e_pg)) (p_0 := by omega) (p_1 := by omega) (p_2 := by omega) (p_3 := by omega) (p_4 := by omega) (c_NP := c227)) (fun o V_q hq => ?_)
      obtain ⟨m239, tg239, ln239, F240, rfl, rfl, hx241, hC242, hM243, p244, p245, p246, p247, p248, p249, p250, p251, c252, c253, -⟩ | ⟨m254, tg254, ln254, F254, x254, rfl, rfl, hx254, hC254, hM254, ho254, ht254, p255, p256, p257, p258, c259, c260, -⟩ := hq
      rotate_left
      ·
        have c261 : NM m m254 tg254 := NM_t c210 hx254 c260
        have lm262 := hx254.1
        refine Or.inr (Or.inr (Or.inr ⟨_, _, rfl, cx_exc (c := 15) ho254 ht254 (by decide), rfl, ?_⟩))
        have q263 : F223 (sc) (8 : Int) = F169 (sc) (8 : Int) := ((show F223 (sc) (8 : Int) = F218 (sc) (8 : Int) from by rw [eF223]; exact uF_j (by decide)).trans ((show F218 (sc) (8 : Int) = F214 (sc) (8 : Int) from by rw [eF218]; exact uF_j (by decide)).trans (show F214 (sc) (8 : Int) = F169 (sc) (8 : Int) from by rw [eF214]; exact uF_j (by decide))))
        have q264 : F223 (sc) (7 : Int) = F (sc) (7 : Int) := ((show F223 (sc) (7 : Int) = F218 (sc) (7 : Int) from by rw [eF223]; exact uF_j (by decide)).trans ((show F218 (sc) (7 : Int) = F214 (sc) (7 : Int) from by rw [eF218]; exact uF_j (by decide)).trans ((show F214 (sc) (7 : Int) = F169 (sc) (7 : Int) from by rw [eF214]; exact uF_j (by decide)).trans ((show F169 (sc) (7 : Int) = F127 (sc) (7 : Int) from hM173 _ _ ho157.1 (own_z ho157.1) (by rw [ho157.2]; rfl)).trans ((show F127 (sc) (7 : Int) = F93 (sc) (7 : Int) from hM130 _ _ ho70.1 (own_z ho70.1) (by rw [ho70.2]; rfl)).trans ((show F93 (sc) (7 : Int) = F46 (sc) (7 : Int) from hM95 _ _ ho70.1 (own_z ho70.1) (by rw [ho70.2]; rfl)).trans ((show F46 (sc) (7 : Int) = F5 (sc) (7 : Int) from hM50 _ _ ho32.1 (own_z ho32.1) (by rw [ho32.2]; rfl)).trans (show F5 (sc) (7 : Int) = F (sc) (7 : Int) from hM9 _ _ o_sc (own_z o_sc) (by rw [t_sc]; rfl)))))))))
        exact Or.inr ⟨m254, tg254, ln254, F254, x254, rfl, rfl, Ex_t hX205 hx254, hC254, Fq_t (ln := ln) (ln1 := ln168) hM225 hX205 hM254 (by decide) (Or.inl rfl), (And.intro ho254 ht254).1, (And.intro ho254 ht254).2, by omega, by omega, by omega, by omega, c259, c261, trivial⟩
      have hM265 : Fq 0 [(9, 3), (10, 0), (10, 1), (10, 2), (10, 9), (11, 8), (11, 12), (11, 13), (11, 14), (11, 15), (11, 16), (11, 17), (11, 18)] m tg F F240 := Fq_t (ln := ln) (ln1 := ln168) hM225 hX205 hM243 (by decide) (Or.inl rfl)
      have lm266 := hx241.1
      have lt267 : r47 < 64 + (m168 : Int) := ho202.1.2.1
      have ho268 : own m239 (me) ∧ tg239 (me) = 9 := Ex_o hx241 ⟨ho201.1, ho201.2⟩
      have ho269 : own m239 (r47) ∧ tg239 (r47) = 8 := Ex_o hx241 ⟨ho202.1, ho202.2⟩
      have ho270 : own m239 (sc) ∧ tg239 (sc) = 11 := Ex_o hx241 ⟨ho203.1, ho203.2⟩
      have ho271 : own m239 (pg) ∧ tg239 (pg) = 10 := Ex_o hx241 ⟨ho204.1, ho204.2⟩
      have hX272 := Ex_t hX205 hx241
      have w273 : WK F240 r47 (17 - 2 * F me (3 : Int)) := WK_q w226 hC224 ho202.1 ho202.2 hM243 rfl
      have c274 : NM m m239 tg239 := NM_t c210 hx241 c253
      refine Or.inl ⟨rfl, ?_⟩
      refine jx_ld (pc_q := 71) (l_q := L81) (st_q := [rv (r47)]) rfl (jl_rvn g83) ?_
      refine jx_rt (v := some (rv (r47))) rfl rfl rfl rfl rfl jr_are ?_
      have q275 : F240 (sc) (7 : Int) = F (sc) (7 : Int) := ((show F240 (sc) (7 : Int) = F223 (sc) (7 : Int) from hM243 _ _ ho203.1 (own_z ho203.1) (by rw [ho203.2]; rfl)).trans ((show F223 (sc) (7 : Int) = F218 (sc) (7 : Int) from by rw [eF223]; exact uF_j (by decide)).trans ((show F218 (sc) (7 : Int) = F214 (sc) (7 : Int) from by rw [eF218]; exact uF_j (by decide)).trans ((show F214 (sc) (7 : Int) = F169 (sc) (7 : Int) from by rw [eF214]; exact uF_j (by decide)).trans ((show F169 (sc) (7 : Int) = F127 (sc) (7 : Int) from hM173 _ _ ho157.1 (own_z ho157.1) (by rw [ho157.2]; rfl)).trans ((show F127 (sc) (7 : Int) = F93 (sc) (7 : Int) from hM130 _ _ ho70.1 (own_z ho70.1) (by rw [ho70.2]; rfl)).trans ((show F93 (sc) (7 : Int) = F46 (sc) (7 : Int) from hM95 _ _ ho70.1 (own_z ho70.1) (by rw [ho70.2]; rfl)).trans ((show F46 (sc) (7 : Int) = F5 (sc) (7 : Int) from hM50 _ _ ho32.1 (own_z ho32.1) (by rw [ho32.2]; rfl)).trans (show F5 (sc) (7 : Int) = F (sc) (7 : Int) from hM9 _ _ o_sc (own_z o_sc) (by rw [t_sc]; rfl))))))))))
      have q276 : F240 (pg) (9 : Int) = F169 (pg) (9 : Int) := ((show F240 (pg) (9 : Int) = F223 (pg) (9 : Int) from hM243 _ _ ho204.1 (own_z ho204.1) (by rw [ho204.2]; rfl)).trans ((show F223 (pg) (9 : Int) = F218 (pg) (9 : Int) from by rw [eF223]; exact uF_j (by decide)).trans ((show F218 (pg) (9 : Int) = F214 (pg) (9 : Int) from by rw [eF218]; exact uF_j (by decide)).trans (show F214 (pg) (9 : Int) = F169 (pg) (9 : Int) from by rw [eF214]; exact uF_j (by decide)))))
      have q277 := tz_b (F240 (sc) (15 : Int))
      have q278 := lz_b (F240 (sc) (14 : Int))
      have q279 : F240 (pg) (9 : Int) = F169 (pg) (9 : Int) := ((show F240 (pg) (9 : Int) = F223 (pg) (9 : Int) from hM243 _ _ ho204.1 (own_z ho204.1) (by rw [ho204.2]; rfl)).trans ((show F223 (pg) (9 : Int) = F218 (pg) (9 : Int) from by rw [eF223]; exact uF_j (by decide)).trans ((show F218 (pg) (9 : Int) = F214 (pg) (9 : Int) from by rw [eF218]; exact uF_j (by decide)).trans (show F214 (pg) (9 : Int) = F169 (pg) (9 : Int) from by rw [eF214]; exact uF_j (by decide)))))
      have q280 : F240 (r47) (0 : Int) = F46 (r47) (0 : Int) := ((show F240 (r47) (0 : Int) = F223 (r47) (0 : Int) from hM243 _ _ ho202.1 (own_z ho202.1) (by rw [ho202.2]; rfl)).trans ((show F223 (r47) (0 : Int) = F218 (r47) (0 : Int) from by rw [eF223]; exact uF_j (by decide)).trans ((show F218 (r47) (0 : Int) = F214 (r47) (0 : Int) from by rw [eF218]; exact uF_j (by decide)).trans ((show F214 (r47) (0 : Int) = F169 (r47) (0 : Int) from by rw [eF214]; exact uF_j (by decide)).trans ((show F169 (r47) (0 : Int) = F127 (r47) (0 : Int) from hM173 _ _ ho156.1 (own_z ho156.1) (by rw [ho156.2]; rfl)).trans ((show F127 (r47) (0 : Int) = F93 (r47) (0 : Int) from hM130 _ _ b51.1 (own_z b51.1) (by rw [b51.2]; rfl)).trans (show F93 (r47) (0 : Int) = F46 (r47) (0 : Int) from hM95 _ _ b51.1 (own_z b51.1) (by rw [b51.2]; rfl))))))))
      have q281 : F240 (r47) (3 : Int) = F46 (r47) (3 : Int) := ((show F240 (r47) (3 : Int) = F223 (r47) (3 : Int) from hM243 _ _ ho202.1 (own_z ho202.1) (by rw [ho202.2]; rfl)).trans ((show F223 (r47) (3 : Int) = F218 (r47) (3 : Int) from by rw [eF223]; exact uF_j (by decide)).trans ((show F218 (r47) (3 : Int) = F214 (r47) (3 : Int) from by rw [eF218]; exact uF_j (by decide)).trans ((show F214 (r47) (3 : Int) = F169 (r47) (3 : Int) from by rw [eF214]; exact uF_j (by decide)).trans ((show F169 (r47) (3 : Int) = F127 (r47) (3 : Int) from hM173 _ _ ho156.1 (own_z ho156.1) (by rw [ho156.2]; rfl)).trans ((show F127 (r47) (3 : Int) = F93 (r47) (3 : Int) from hM130 _ _ b51.1 (own_z b51.1) (by rw [b51.2]; rfl)).trans (show F93 (r47) (3 : Int) = F46 (r47) (3 : Int) from hM95 _ _ b51.1 (own_z b51.1) (by rw [b51.2]; rfl))))))))
      exact Or.inl ⟨m239, tg239, ln239, F240, (r47), rfl, rfl, hX272, hC242, hM265, ⟨ho269.1, ho269.2⟩, by omega, by omega, by omega, by omega, by omega, by omega, by omega, by omega, (WK_m w273 (by omega)), by omega, by omega, by omega, c252, c274, trivial⟩
    · have _q := h119
      refine jx_ld (pc_q := 47) (l_q := L81) (st_q := [rv (me)]) rfl (jl_rvn g82) ?_
      refine jx_ar (pc_q := 48) (st_q := [.int (i32 (4)), rv (me)]) rfl rfl rfl rfl ?_
      refine jx_ld (pc_q := 49) (l_q := L81) (st_q := [.int (i32 (F (sc) (16 : Int))), .int (i32 (4)), rv (me)]) rfl (jl_iloadn g84) ?_
      have q282 : F93 (sc) (7 : Int) = F (sc) (7 : Int) := ((show F93 (sc) (7 : Int) = F46 (sc) (7 : Int) from hM95 _ _ ho70.1 (own_z ho70.1) (by rw [ho70.2]; rfl)).trans ((show F46 (sc) (7 : Int) = F5 (sc) (7 : Int) from hM50 _ _ ho32.1 (own_z ho32.1) (by rw [ho32.2]; rfl)).trans (show F5 (sc) (7 : Int) = F (sc) (7 : Int) from hM9 _ _ o_sc (own_z o_sc) (by rw [t_sc]; rfl))))
      refine cx_vi (c := 8) (a := me) (st := []) (as := [.int (i32 (4)), .int (i32 (F (sc) (16 : Int)))]) rfl rfl rfl ho69.1 ho69.2 (by decide) rfl ⟨rfl, rfl, (Nat.le_of_ble_eq_true rfl)⟩ rfl (k_LParser_fail (dd := d) (R := R) (m := m45) (tg := tg45) (ln := ln45) (F := F93) (me := me) (kd := 4) (pl := F (sc) (16 : Int)) (hd := by omega) (hC := hC94) (o_me := ho69.1) (t_me := ho69.2) (h_kd := by omega) (h_pl := by omega) (sc := sc) (pg := pg) (o_sc := ho70.1) (t_sc := ho70.2) (e_sc := (((show F93 (me) (1 : Int) = F46 (me) (1 : Int) from hM95 _ _ ho69.1 (own_z ho69.1) (by rw [ho69.2]; rfl)).trans ((show F46 (me) (1 : Int) = F5 (me) (1 : Int) from hM50 _ _ ho31.1 (own_z ho31.1) (by rw [ho31.2]; rfl)).trans (show F5 (me) (1 : Int) = F (me) (1 : Int) from hM9 _ _ o_me (own_z o_me) (by rw [t_me]; rfl)))).trans e_sc)) (o_pg := ho71.1) (t_pg := ho71.2) (e_pg := (((show F93 (me) (0 : Int) = F46 (me) (0 : Int) from hM95 _ _ ho69.1 (own_z ho69.1) (by rw [ho69.2]; rfl)).trans ((show F46 (me) (0 : Int) = F5 (me) (0 : Int) from hM50 _ _ ho31.1 (own_z ho31.1) (by rw [ho31.2]; rfl)).trans (show F5 (me) (0 : Int) = F (me) (0 : Int) from hM9 _ _ o_me (own_z o_me) (by rw [t_me]; rfl)))).trans e_pg)) (p_0 := by omega) (p_1 := by omega) (c_NP := c101)) (fun o V_q hq => ?_)
      obtain ⟨m283, tg283, ln283, F284, rfl, rfl, hx285, hC286, hM287, p288, c289, c290, -⟩ | ⟨m291, tg291, ln291, F291, x291, rfl, rfl, hx291, hC291, hM291, ho291, ht291, p292, p293, p294, p295, c296, c297, -⟩ := hq
      rotate_left
      ·
        have c298 : NM m m291 tg291 := NM_t c76 hx291 c297
        have lm299 := hx291.1
        refine Or.inr (Or.inr (Or.inr ⟨_, _, rfl, cx_exc (c := 15) ho291 ht291 (by decide), rfl, ?_⟩))
        have q300 : F93 (sc) (7 : Int) = F (sc) (7 : Int) := ((show F93 (sc) (7 : Int) = F46 (sc) (7 : Int) from hM95 _ _ ho70.1 (own_z ho70.1) (by rw [ho70.2]; rfl)).trans ((show F46 (sc) (7 : Int) = F5 (sc) (7 : Int) from hM50 _ _ ho32.1 (own_z ho32.1) (by rw [ho32.2]; rfl)).trans (show F5 (sc) (7 : Int) = F (sc) (7 : Int) from hM9 _ _ o_sc (own_z o_sc) (by rw [t_sc]; rfl))))
        exact Or.inr ⟨m291, tg291, ln291, F291, x291, rfl, rfl, Ex_t hX72 hx291, hC291, Fq_t (ln := ln) (ln1 := ln45) hM99 hX72 hM291 (by decide) (Or.inl rfl), (And.intro ho291 ht291).1, (And.intro ho291 ht291).2, by omega, by omega, by omega, by omega, c296, c298, trivial⟩
      exact p288.elim
set_option maxRecDepth 20000 in
set_option maxHeartbeats 4000000 in
theorem k_LParser_judged {X : jX} {kk : Nat} (hE : 1 ≤ kk → PEx X (kk - 1)) {dd : Nat} {R : Nat → jC} {m : Nat} {tg ln : Int → Int} {F : Int → Int → Int} {me wa : Int} (hd : 5 * kk + 5 ≤ dd) (hC : HC 0 m tg ln F) {sc pg : Int} (o_sc : own m sc) (t_sc : tg sc = 11) (e_sc : F me (1 : Int) = sc) (o_pg : own m pg) (t_pg : tg pg = 10) (e_pg : F me (0 : Int) = pg) (o_me : own m me) (t_me : tg me = 9) (h_wa : (0 : Int) ≤ wa ∧ wa ≤ 1) (p_0 : F sc (8 : Int) + 2 * tz (F sc (15 : Int)) ≤ F sc (7 : Int) + 1) (p_1 : F sc (8 : Int) + 2 * lz (F sc (14 : Int)) ≤ F sc (7 : Int) + 1) (p_2 : F sc (8 : Int) ≤ F sc (7 : Int)) (p_3 : tz (F sc (15 : Int)) = 1) (p_4 : 9 ≤ (kk : Int) + F me (3 : Int)) (c_NP : NP m tg F) : wk X dd 196 [rv me, .int (i32 wa)] (cV R m tg ln F) (fun o V_q => (∃ (m_q : Nat) (tg_q ln_q : Int → Int) (F_q : Int → Int → Int) (r : Int), V_q = cV R m_q tg_q ln_q F_q ∧ o = .inl (some (rv r)) ∧ Ex m tg ln m_q tg_q ln_q ∧ HC 0 m_q tg_q ln_q F_q ∧ Fq 0 [(9, 3), (10, 0), (10, 1), (10, 2), (10, 9), (11, 8), (11, 12), (11, 13), (11, 14), (11, 15), (11, 16), (11, 17), (11, 18)] m tg F F_q ∧ (own m_q r ∧ tg_q r = 8) ∧ (F_q sc (8 : Int) + 2 * tz (F_q sc (15 : Int)) ≤ F sc (7 : Int) + 1) ∧ (F_q sc (8 : Int) + 2 * lz (F_q sc (14 : Int)) ≤ F sc (7 : Int) + 1) ∧ (F_q sc (8 : Int) ≤ F sc (7 : Int)) ∧ (F sc (8 : Int) ≤ F_q sc (8 : Int)) ∧ (szD m_q tg_q ln_q = szD m tg ln + 25 * ((m_q : Int) - (m : Int))) ∧ ((m_q : Int) ≤ (m : Int) + (F_q sc (8 : Int) - F sc (8 : Int)) + (0)) ∧ (F_q pg (9 : Int) ≤ F pg (9 : Int) + ((m_q : Int) - (m : Int))) ∧ (64 + (m : Int) ≤ r) ∧ (WK F_q r (17 - 2 * F me (3 : Int))) ∧ (20 ≤ F_q r (0 : Int)) ∧ (F_q me (3 : Int) = F me (3 : Int)) ∧ (F_q r (3 : Int) ≠ 0) ∧ (NP m_q tg_q F_q) ∧ (NM m m_q tg_q) ∧ True) ∨ (∃ (m_q : Nat) (tg_q ln_q : Int → Int) (F_q : Int → Int → Int) (x : Nat), V_q = cV R m_q tg_q ln_q F_q ∧ o = .inr x ∧ Ex m tg ln m_q tg_q ln_q ∧ HC 0 m_q tg_q ln_q F_q ∧ Fq 0 [(9, 3), (10, 0), (10, 1), (10, 2), (10, 9), (11, 8), (11, 12), (11, 13), (11, 14), (11, 15), (11, 16), (11, 17), (11, 18)] m tg F F_q ∧ (own m_q (x : Int)) ∧ (tg_q (x : Int) = 16) ∧ (F_q pg (0 : Int) ≠ 0) ∧ (szD m_q tg_q ln_q = szD m tg ln + 25 * ((m_q : Int) - (m : Int))) ∧ ((m_q : Int) ≤ (m : Int) + (F_q sc (8 : Int) - F sc (8 : Int)) + (1)) ∧ (F_q sc (8 : Int) ≤ F sc (7 : Int) + 1) ∧ (NP m_q tg_q F_q) ∧ (NM m m_q tg_q) ∧ True)) := by
  obtain ⟨d, rfl⟩ : ∃ d, dd = d + 1 := ⟨dd - 1, by omega⟩
  refine wk_of (e := jm196) rfl (by rw [jS_r, jS_i, jS_0]; exact Nat.le_of_ble_eq_true rfl) ?_
  rw [la_r, la_i, la_0]
  show wj X d jm196 (0, [(0, rv (me)), (1, .int (i32 (wa)))], [], cV R m tg ln F) _
  have hM0 : Fq 0 [(9, 3), (10, 0), (10, 1), (10, 2), (10, 9), (11, 8), (11, 12), (11, 13), (11, 14), (11, 15), (11, 16), (11, 17), (11, 18)] m tg F F := Fq_r
  have hX0 : Ex m tg ln m tg ln := Ex_r
  obtain ⟨L0, eL0⟩ : ∃ q : jL, q = [(0, rv (me)), (1, .int (i32 (wa)))] := ⟨_, rfl⟩
  rw [← eL0]
  have g1 : jGet L0 0 = some (rv (me)) := eL0 ▸ (rfl : jGet [(0, rv (me)), (1, .int (i32 (wa)))] 0 = some (rv (me)))
  have g2 : jGet L0 1 = some (.int (i32 (wa))) := eL0 ▸ (rfl : jGet [(0, rv (me)), (1, .int (i32 (wa)))] 1 = some (.int (i32 (wa))))
  clear eL0
  have tb0 := tz_b (F sc (15 : Int))
  have lb0 := lz_b (F sc (14 : Int))
  have ob0 : (0 : Int) ≤ F me (3 : Int) ∧ F me (3 : Int) ≤ 8 := HC_i (c := 8) (q := 3) hC o_me t_me (by decide) rfl
  have tp0 : F me (2 : Int) < 64 + (m : Int) := by
    have z : F me (2 : Int) = 0 ∨ (own m (F me (2 : Int)) ∧ tg (F me (2 : Int)) = 7) := HC_r (c := 8) (q := 2) hC o_me t_me (by decide) rfl
    rcases z with w | w
    · omega
    · exact w.1.2.1
  refine jx_ld (pc_q := 1) (l_q := L0) (st_q := [rv (me)]) rfl (jl_rvn g1) ?_
  refine cx_gr (pc_q := 4) (c := 8) (q := 1) (v := sc) rfl rfl (by decide) (by decide) rfl rfl o_me t_me e_sc ?_
  refine cx_gi (pc_q := 7) (c := 10) (q := 16) (v := F (sc) (16 : Int)) rfl rfl (by decide) (by decide) (Or.inl rfl) rfl o_sc t_sc rfl ?_
  have b3 : (-2147483648 : Int) ≤ F (sc) (16 : Int) ∧ F (sc) (16 : Int) ≤ 2147483647 := by have z := HC_i (c := 10) (q := 16) hC o_sc t_sc (by decide) rfl; rw [show F (sc) ((16 : Nat) : Int) = F (sc) (16 : Int) from rfl] at z; exact z
  refine jx_ld (pc_q := 8) (l_q := jSto1 L0 2 (.int (i32 (F (sc) (16 : Int))))) (st_q := []) rfl rfl ?_
  obtain ⟨L4, eL4⟩ : ∃ q : jL, q = jSto1 L0 2 (.int (i32 (F (sc) (16 : Int)))) := ⟨_, rfl⟩
  rw [← eL4]
  have g5 : jGet L4 0 = some (rv (me)) := eL4 ▸ jg_nr (by decide) g1
  have g6 : jGet L4 1 = some (.int (i32 (wa))) := eL4 ▸ jg_ne (by decide) g2 rfl
  have g7 : jGet L4 2 = some (.int (i32 (F (sc) (16 : Int)))) := eL4 ▸ jg_eq
  clear eL4
  refine jx_ld (pc_q := 9) (l_q := L4) (st_q := [.int (i32 (wa))]) rfl (jl_iloadn g6) ?_
  refine jx_if_ne (pc_q := 12) (tg := 18) rfl rfl rfl (by omega) (by omega) (fun h8 => ?_) (fun h8 => ?_)
  · have _q := h8
    refine jx_ld (pc_q := 19) (l_q := L4) (st_q := [rv (me)]) rfl (jl_rvn g5) ?_
    have b9 : (0 : Int) ≤ F (me) (3 : Int) ∧ F (me) (3 : Int) ≤ 8 := by have z := HC_i (c := 8) (q := 3) hC o_me t_me (by decide) rfl; exact z
    have q10 := tz_b (F (sc) (15 : Int))
    have q11 := lz_b (F (sc) (14 : Int))
    refine cx_vi (c := 8) (a := me) (st := []) (as := []) rfl rfl rfl o_me t_me (by decide) rfl ⟨rfl, rfl, (Nat.le_of_ble_eq_true rfl)⟩ rfl (k_LParser_unjudged (dd := d) (R := R) (m := m) (tg := tg) (ln := ln) (F := F) (kk := kk) (hE := hE) (me := me) (hd := by omega) (hC := hC) (o_me := o_me) (t_me := t_me) (sc := sc) (pg := pg) (o_sc := o_sc) (t_sc := t_sc) (e_sc := e_sc) (o_pg := o_pg) (t_pg := t_pg) (e_pg := e_pg) (p_0 := by omega) (p_1 := by omega) (p_2 := by omega) (p_3 := by omega) (p_4 := by omega) (c_NP := c_NP)) (fun o V_q hq => ?_)
    obtain ⟨m12, tg12, ln12, F13, r14, rfl, rfl, hx15, hC16, hM17, b18, p19, p20, p21, p22, p23, p24, p25, p26, p27, p28, p29, p30, c31, c32, -⟩ | ⟨m33, tg33, ln33, F33, x33, rfl, rfl, hx33, hC33, hM33, ho33, ht33, p34, p35, p36, p37, c38, c39, -⟩ := hq
    rotate_left
    ·
      have c40 : NM m m33 tg33 := NM_t NM_0 hx33 c39
      have lm41 := hx33.1
      refine Or.inr (Or.inr (Or.inr ⟨_, _, rfl, cx_exc (c := 15) ho33 ht33 (by decide), rfl, ?_⟩))
      exact Or.inr ⟨m33, tg33, ln33, F33, x33, rfl, rfl, Ex_t hX0 hx33, hC33, Fq_t (ln := ln) (ln1 := ln) hM0 hX0 hM33 (by decide) (Or.inl rfl), (And.intro ho33 ht33).1, (And.intro ho33 ht33).2, by omega, by omega, by omega, by omega, c38, c40, trivial⟩
    have hM42 : Fq 0 [(9, 3), (10, 0), (10, 1), (10, 2), (10, 9), (11, 8), (11, 12), (11, 13), (11, 14), (11, 15), (11, 16), (11, 17), (11, 18)] m tg F F13 := Fq_t (ln := ln) (ln1 := ln) hM0 hX0 hM17 (by decide) (Or.inl rfl)
    have lm43 := hx15.1
    have ho44 : own m12 (me) ∧ tg12 (me) = 9 := Ex_o hx15 ⟨o_me, t_me⟩
    have ho45 : own m12 (sc) ∧ tg12 (sc) = 11 := Ex_o hx15 ⟨o_sc, t_sc⟩
    have ho46 : own m12 (pg) ∧ tg12 (pg) = 10 := Ex_o hx15 ⟨o_pg, t_pg⟩
    have hX47 := Ex_t hX0 hx15
    have q48 := p27.1
    have q49 := p27.2.1
    have q50 := p27.2.2.1
    have c51 : NM m m12 tg12 := NM_t NM_0 hx15 c32
    refine Or.inr (Or.inl ⟨_, rfl, ?_⟩)
    refine jx_ld (pc_q := 23) (l_q := jSto1 L4 3 (rv (r14))) (st_q := []) rfl (js_rvn (by decide)) ?_
    obtain ⟨L52, eL52⟩ : ∃ q : jL, q = jSto1 L4 3 (rv (r14)) := ⟨_, rfl⟩
    rw [← eL52]
    have g53 : jGet L52 0 = some (rv (me)) := eL52 ▸ jg_nr (by decide) g5
    have g54 : jGet L52 1 = some (.int (i32 (wa))) := eL52 ▸ jg_ne (by decide) g6 rfl
    have g55 : jGet L52 2 = some (.int (i32 (F (sc) (16 : Int)))) := eL52 ▸ jg_ne (by decide) g7 rfl
    have g56 : jGet L52 3 = some (rv (r14)) := eL52 ▸ jg_eq
    clear eL52
    refine jx_ld (pc_q := 24) (l_q := L52) (st_q := [rv (me)]) rfl (jl_rvn g53) ?_
    refine jx_ld (pc_q := 25) (l_q := L52) (st_q := [rv (r14), rv (me)]) rfl (jl_rvn g56) ?_
    refine jx_ar (pc_q := 26) (st_q := [.int (i32 (1)), rv (r14), rv (me)]) rfl rfl rfl rfl ?_
    refine jx_ld (pc_q := 27) (l_q := L52) (st_q := [.int (i32 (F (sc) (16 : Int))), .int (i32 (1)), rv (r14), rv (me)]) rfl (jl_iloadn g55) ?_
    have q57 := tz_b (F13 (sc) (15 : Int))
    have q58 : F13 (sc) (7 : Int) = F (sc) (7 : Int) := (show F13 (sc) (7 : Int) = F (sc) (7 : Int) from hM17 _ _ o_sc (own_z o_sc) (by rw [t_sc]; rfl))
    have q59 := lz_b (F13 (sc) (14 : Int))
    refine cx_vi (c := 8) (a := me) (st := []) (as := [rv (r14), .int (i32 (1)), .int (i32 (F (sc) (16 : Int)))]) rfl rfl rfl ho44.1 ho44.2 (by decide) rfl ⟨rfl, rfl, (Nat.le_of_ble_eq_true rfl)⟩ rfl (k_LParser_judge (dd := d) (R := R) (m := m12) (tg := tg12) (ln := ln12) (F := F13) (me := me) (pt := r14) (wa := 1) (pl := F (sc) (16 : Int)) (hd := by omega) (hC := hC16) (o_me := ho44.1) (t_me := ho44.2) (o_pt := b18.1) (t_pt := b18.2) (h_wa := by omega) (h_pl := by omega) (sc := sc) (pg := pg) (o_sc := ho45.1) (t_sc := ho45.2) (e_sc := ((show F13 (me) (1 : Int) = F (me) (1 : Int) from hM17 _ _ o_me (own_z o_me) (by rw [t_me]; rfl)).trans e_sc)) (o_pg := ho46.1) (t_pg := ho46.2) (e_pg := ((show F13 (me) (0 : Int) = F (me) (0 : Int) from hM17 _ _ o_me (own_z o_me) (by rw [t_me]; rfl)).trans e_pg)) (p_0 := by omega) (p_1 := by omega) (p_2 := by omega) (p_3 := by omega) (c_NP := c31)) (fun o V_q hq => ?_)
    obtain ⟨m60, tg60, ln60, F61, rfl, rfl, hx62, hC63, hM64, p65, p66, p67, p68, p69, p70, p71, c72, c73, -⟩ | ⟨m74, tg74, ln74, F74, x74, rfl, rfl, hx74, hC74, hM74, ho74, ht74, p75, p76, p77, p78, c79, c80, -⟩ := hq
    rotate_left
    ·
      have c81 : NM m m74 tg74 := NM_t c51 hx74 c80
      have lm82 := hx74.1
      refine Or.inr (Or.inr (Or.inr ⟨_, _, rfl, cx_exc (c := 15) ho74 ht74 (by decide), rfl, ?_⟩))
      have q83 : F13 (sc) (7 : Int) = F (sc) (7 : Int) := (show F13 (sc) (7 : Int) = F (sc) (7 : Int) from hM17 _ _ o_sc (own_z o_sc) (by rw [t_sc]; rfl))
      exact Or.inr ⟨m74, tg74, ln74, F74, x74, rfl, rfl, Ex_t hX47 hx74, hC74, Fq_t (ln := ln) (ln1 := ln12) hM42 hX47 hM74 (by decide) (Or.inl rfl), (And.intro ho74 ht74).1, (And.intro ho74 ht74).2, by omega, by omega, by omega, by omega, c79, c81, trivial⟩
    have hM84 : Fq 0 [(9, 3), (10, 0), (10, 1), (10, 2), (10, 9), (11, 8), (11, 12), (11, 13), (11, 14), (11, 15), (11, 16), (11, 17), (11, 18)] m tg F F61 := Fq_t (ln := ln) (ln1 := ln12) hM42 hX47 hM64 (by decide) (Or.inl rfl)
    have lm85 := hx62.1
    have lt86 : r14 < 64 + (m12 : Int) := b18.1.2.1
    have ho87 : own m60 (me) ∧ tg60 (me) = 9 := Ex_o hx62 ⟨ho44.1, ho44.2⟩
    have ho88 : own m60 (r14) ∧ tg60 (r14) = 8 := Ex_o hx62 ⟨b18.1, b18.2⟩
    have ho89 : own m60 (sc) ∧ tg60 (sc) = 11 := Ex_o hx62 ⟨ho45.1, ho45.2⟩
    have ho90 : own m60 (pg) ∧ tg60 (pg) = 10 := Ex_o hx62 ⟨ho46.1, ho46.2⟩
    have hX91 := Ex_t hX47 hx62
    have w92 : WK F61 r14 (17 - 2 * F me (3 : Int)) := WK_q p27 hC16 b18.1 b18.2 hM64 rfl
    have c93 : NM m m60 tg60 := NM_t c51 hx62 c73
    refine Or.inl ⟨rfl, ?_⟩
    refine jx_ld (pc_q := 31) (l_q := L52) (st_q := [rv (r14)]) rfl (jl_rvn g56) ?_
    refine jx_rt (v := some (rv (r14))) rfl rfl rfl rfl rfl jr_are ?_
    have q94 : F61 (sc) (7 : Int) = F (sc) (7 : Int) := ((show F61 (sc) (7 : Int) = F13 (sc) (7 : Int) from hM64 _ _ ho45.1 (own_z ho45.1) (by rw [ho45.2]; rfl)).trans (show F13 (sc) (7 : Int) = F (sc) (7 : Int) from hM17 _ _ o_sc (own_z o_sc) (by rw [t_sc]; rfl)))
    have q95 : F61 (sc) (8 : Int) = F13 (sc) (8 : Int) := (show F61 (sc) (8 : Int) = F13 (sc) (8 : Int) from hM64 _ _ ho45.1 (own_z ho45.1) (by rw [ho45.2]; rfl))
    have q96 : F61 (pg) (9 : Int) = F13 (pg) (9 : Int) := (show F61 (pg) (9 : Int) = F13 (pg) (9 : Int) from hM64 _ _ ho46.1 (own_z ho46.1) (by rw [ho46.2]; rfl))
    have q97 : F61 (me) (3 : Int) = F13 (me) (3 : Int) := (show F61 (me) (3 : Int) = F13 (me) (3 : Int) from hM64 _ _ ho44.1 (own_z ho44.1) (by rw [ho44.2]; rfl))
    have q98 : F61 (sc) (8 : Int) = F13 (sc) (8 : Int) := (show F61 (sc) (8 : Int) = F13 (sc) (8 : Int) from hM64 _ _ ho45.1 (own_z ho45.1) (by rw [ho45.2]; rfl))
    have q99 : F61 (sc) (15 : Int) = F13 (sc) (15 : Int) := (show F61 (sc) (15 : Int) = F13 (sc) (15 : Int) from hM64 _ _ ho45.1 (own_z ho45.1) (by rw [ho45.2]; rfl))
    have q100 : tz (F61 (sc) (15 : Int)) = tz (F13 (sc) (15 : Int)) := by rw [q99]
    have q101 := tz_b (F13 (sc) (15 : Int))
    have q102 : F61 (sc) (14 : Int) = F13 (sc) (14 : Int) := (show F61 (sc) (14 : Int) = F13 (sc) (14 : Int) from hM64 _ _ ho45.1 (own_z ho45.1) (by rw [ho45.2]; rfl))
    have q103 : lz (F61 (sc) (14 : Int)) = lz (F13 (sc) (14 : Int)) := by rw [q102]
    have q104 := lz_b (F13 (sc) (14 : Int))
    have q105 : F61 (pg) (9 : Int) = F13 (pg) (9 : Int) := (show F61 (pg) (9 : Int) = F13 (pg) (9 : Int) from hM64 _ _ ho46.1 (own_z ho46.1) (by rw [ho46.2]; rfl))
    have q106 : F61 (r14) (0 : Int) = F13 (r14) (0 : Int) := (show F61 (r14) (0 : Int) = F13 (r14) (0 : Int) from hM64 _ _ b18.1 (own_z b18.1) (by rw [b18.2]; rfl))
    have q107 : F61 (me) (3 : Int) = F13 (me) (3 : Int) := (show F61 (me) (3 : Int) = F13 (me) (3 : Int) from hM64 _ _ ho44.1 (own_z ho44.1) (by rw [ho44.2]; rfl))
    have q108 : F61 (r14) (3 : Int) = F13 (r14) (3 : Int) := (show F61 (r14) (3 : Int) = F13 (r14) (3 : Int) from hM64 _ _ b18.1 (own_z b18.1) (by rw [b18.2]; rfl))
    exact Or.inl ⟨m60, tg60, ln60, F61, (r14), rfl, rfl, hX91, hC63, hM84, ⟨ho88.1, ho88.2⟩, by omega, by omega, by omega, by omega, by omega, by omega, by omega, by omega, (WK_m w92 (by omega)), by omega, by omega, by omega, c72, c93, trivial⟩
  · have _q := h8
    refine jx_ld (pc_q := 13) (l_q := L4) (st_q := [rv (me)]) rfl (jl_rvn g5) ?_
    refine jx_ar (pc_q := 14) (st_q := [.int (i32 (4)), rv (me)]) rfl rfl rfl rfl ?_
    refine jx_ld (pc_q := 15) (l_q := L4) (st_q := [.int (i32 (F (sc) (16 : Int))), .int (i32 (4)), rv (me)]) rfl (jl_iloadn g7) ?_
    refine cx_vi (c := 8) (a := me) (st := []) (as := [.int (i32 (4)), .int (i32 (F (sc) (16 : Int)))]) rfl rfl rfl o_me t_me (by decide) rfl ⟨rfl, rfl, (Nat.le_of_ble_eq_true rfl)⟩ rfl (k_LParser_fail (dd := d) (R := R) (m := m) (tg := tg) (ln := ln) (F := F) (me := me) (kd := 4) (pl := F (sc) (16 : Int)) (hd := by omega) (hC := hC) (o_me := o_me) (t_me := t_me) (h_kd := by omega) (h_pl := by omega) (sc := sc) (pg := pg) (o_sc := o_sc) (t_sc := t_sc) (e_sc := e_sc) (o_pg := o_pg) (t_pg := t_pg) (e_pg := e_pg) (p_0 := by omega) (p_1 := by omega) (c_NP := c_NP)) (fun o V_q hq => ?_)
    obtain ⟨m109, tg109, ln109, F110, rfl, rfl, hx111, hC112, hM113, p114, c115, c116, -⟩ | ⟨m117, tg117, ln117, F117, x117, rfl, rfl, hx117, hC117, hM117, ho117, ht117, p118, p119, p120, p121, c122, c123, -⟩ := hq
    rotate_left
    ·
      have c124 : NM m m117 tg117 := NM_t NM_0 hx117 c123
      have lm125 := hx117.1
      refine Or.inr (Or.inr (Or.inr ⟨_, _, rfl, cx_exc (c := 15) ho117 ht117 (by decide), rfl, ?_⟩))
      exact Or.inr ⟨m117, tg117, ln117, F117, x117, rfl, rfl, Ex_t hX0 hx117, hC117, Fq_t (ln := ln) (ln1 := ln) hM0 hX0 hM117 (by decide) (Or.inl rfl), (And.intro ho117 ht117).1, (And.intro ho117 ht117).2, by omega, by omega, by omega, by omega, c122, c124, trivial⟩
    exact p114.elim
set_option maxRecDepth 20000 in
set_option maxHeartbeats 4000000 in
theorem k_LParser_operand {X : jX} {kk : Nat} (hE : 1 ≤ kk → PEx X (kk - 1)) {dd : Nat} {R : Nat → jC} {m : Nat} {tg ln : Int → Int} {F : Int → Int → Int} {me : Int} (hd : 5 * kk + 6 ≤ dd) (hC : HC 0 m tg ln F) {sc pg : Int} (o_sc : own m sc) (t_sc : tg sc = 11) (e_sc : F me (1 : Int) = sc) (o_pg : own m pg) (t_pg : tg pg = 10) (e_pg : F me (0 : Int) = pg) (o_me : own m me) (t_me : tg me = 9) (p_0 : F sc (8 : Int) + 2 * tz (F sc (15 : Int)) ≤ F sc (7 : Int) + 1) (p_1 : F sc (8 : Int) + 2 * lz (F sc (14 : Int)) ≤ F sc (7 : Int) + 1) (p_2 : F sc (8 : Int) ≤ F sc (7 : Int)) (p_3 : 9 ≤ (kk : Int) + F me (3 : Int)) (c_NP : NP m tg F) : wk X dd 202 [rv me] (cV R m tg ln F) (fun o V_q => (∃ (m_q : Nat) (tg_q ln_q : Int → Int) (F_q : Int → Int → Int) (r : Int), V_q = cV R m_q tg_q ln_q F_q ∧ o = .inl (some (rv r)) ∧ Ex m tg ln m_q tg_q ln_q ∧ HC 0 m_q tg_q ln_q F_q ∧ Fq 0 [(9, 3), (10, 0), (10, 1), (10, 2), (10, 9), (11, 8), (11, 12), (11, 13), (11, 14), (11, 15), (11, 16), (11, 17), (11, 18)] m tg F F_q ∧ (own m_q r ∧ tg_q r = 8) ∧ (F_q sc (8 : Int) + 2 * tz (F_q sc (15 : Int)) ≤ F sc (7 : Int) + 1) ∧ (F_q sc (8 : Int) + 2 * lz (F_q sc (14 : Int)) ≤ F sc (7 : Int) + 1) ∧ (F_q sc (8 : Int) ≤ F sc (7 : Int)) ∧ (F sc (8 : Int) ≤ F_q sc (8 : Int)) ∧ (szD m_q tg_q ln_q = szD m tg ln + 25 * ((m_q : Int) - (m : Int))) ∧ ((m_q : Int) ≤ (m : Int) + (F_q sc (8 : Int) - F sc (8 : Int)) + (0)) ∧ (F_q pg (9 : Int) ≤ F pg (9 : Int) + ((m_q : Int) - (m : Int))) ∧ (64 + (m : Int) ≤ r) ∧ (WK F_q r (17 - 2 * F me (3 : Int))) ∧ (20 ≤ F_q r (0 : Int)) ∧ (F_q me (3 : Int) = F me (3 : Int)) ∧ (NP m_q tg_q F_q) ∧ (NM m m_q tg_q) ∧ True) ∨ (∃ (m_q : Nat) (tg_q ln_q : Int → Int) (F_q : Int → Int → Int) (x : Nat), V_q = cV R m_q tg_q ln_q F_q ∧ o = .inr x ∧ Ex m tg ln m_q tg_q ln_q ∧ HC 0 m_q tg_q ln_q F_q ∧ Fq 0 [(9, 3), (10, 0), (10, 1), (10, 2), (10, 9), (11, 8), (11, 12), (11, 13), (11, 14), (11, 15), (11, 16), (11, 17), (11, 18)] m tg F F_q ∧ (own m_q (x : Int)) ∧ (tg_q (x : Int) = 16) ∧ (F_q pg (0 : Int) ≠ 0) ∧ (szD m_q tg_q ln_q = szD m tg ln + 25 * ((m_q : Int) - (m : Int))) ∧ ((m_q : Int) ≤ (m : Int) + (F_q sc (8 : Int) - F sc (8 : Int)) + (1)) ∧ (F_q sc (8 : Int) ≤ F sc (7 : Int) + 1) ∧ (NP m_q tg_q F_q) ∧ (NM m m_q tg_q) ∧ True)) := by
  obtain ⟨d, rfl⟩ : ∃ d, dd = d + 1 := ⟨dd - 1, by omega⟩
  refine wk_of (e := jm202) rfl (by rw [jS_r, jS_0]; exact Nat.le_of_ble_eq_true rfl) ?_
  rw [la_r, la_0]
  show wj X d jm202 (0, [(0, rv (me))], [], cV R m tg ln F) _
  have hM0 : Fq 0 [(9, 3), (10, 0), (10, 1), (10, 2), (10, 9), (11, 8), (11, 12), (11, 13), (11, 14), (11, 15), (11, 16), (11, 17), (11, 18)] m tg F F := Fq_r
  have hX0 : Ex m tg ln m tg ln := Ex_r
  obtain ⟨L0, eL0⟩ : ∃ q : jL, q = [(0, rv (me))] := ⟨_, rfl⟩
  rw [← eL0]
  have g1 : jGet L0 0 = some (rv (me)) := eL0 ▸ (rfl : jGet [(0, rv (me))] 0 = some (rv (me)))
  clear eL0
  have tb0 := tz_b (F sc (15 : Int))
  have lb0 := lz_b (F sc (14 : Int))
  have ob0 : (0 : Int) ≤ F me (3 : Int) ∧ F me (3 : Int) ≤ 8 := HC_i (c := 8) (q := 3) hC o_me t_me (by decide) rfl
  have tp0 : F me (2 : Int) < 64 + (m : Int) := by
    have z : F me (2 : Int) = 0 ∨ (own m (F me (2 : Int)) ∧ tg (F me (2 : Int)) = 7) := HC_r (c := 8) (q := 2) hC o_me t_me (by decide) rfl
    rcases z with w | w
    · omega
    · exact w.1.2.1
  refine jx_ld (pc_q := 1) (l_q := L0) (st_q := [rv (me)]) rfl (jl_rvn g1) ?_
  refine cx_gr (pc_q := 4) (c := 8) (q := 1) (v := sc) rfl rfl (by decide) (by decide) rfl rfl o_me t_me e_sc ?_
  refine cx_gi (pc_q := 7) (c := 10) (q := 15) (v := F (sc) (15 : Int)) rfl rfl (by decide) (by decide) (Or.inl rfl) rfl o_sc t_sc rfl ?_
  have b2 : (-2147483648 : Int) ≤ F (sc) (15 : Int) ∧ F (sc) (15 : Int) ≤ 2147483647 := by have z := HC_i (c := 10) (q := 15) hC o_sc t_sc (by decide) rfl; rw [show F (sc) ((15 : Nat) : Int) = F (sc) (15 : Int) from rfl] at z; exact z
  by_cases h3 : F (sc) (15 : Int) = 2
  · refine jx_swe (tg := 74) h3 rfl rfl rfl rfl ?_
    have t4 : tz (F (sc) (15 : Int)) = 1 := tz_p (by omega)
    refine jx_ld (pc_q := 75) (l_q := L0) (st_q := [rv (me)]) rfl (jl_rvn g1) ?_
    refine jx_ld (pc_q := 76) (l_q := L0) (st_q := [rv (me), rv (me)]) rfl (jl_rvn g1) ?_
    have q5 := tz_b (F (sc) (15 : Int))
    have q6 := lz_b (F (sc) (14 : Int))
    refine cx_vi (c := 8) (a := me) (st := [rv (me)]) (as := []) rfl rfl rfl o_me t_me (by decide) rfl ⟨rfl, rfl, (by rw [jS_r, jS_0]; exact Nat.le_of_ble_eq_true rfl)⟩ rfl (k_LParser_known (dd := d) (R := R) (m := m) (tg := tg) (ln := ln) (F := F) (me := me) (hd := by omega) (hC := hC) (o_me := o_me) (t_me := t_me) (sc := sc) (pg := pg) (o_sc := o_sc) (t_sc := t_sc) (e_sc := e_sc) (o_pg := o_pg) (t_pg := t_pg) (e_pg := e_pg) (p_0 := by omega) (p_1 := by omega) (p_2 := by omega) (c_NP := c_NP)) (fun o V_q hq => ?_)
    obtain ⟨m7, tg7, ln7, F8, r9, rfl, rfl, hx10, hC11, hM12, b13, p14, p15, p16, p17, p18, p19, p20, c21, c22, -⟩ | ⟨m23, tg23, ln23, F23, x23, rfl, rfl, hx23, hC23, hM23, ho23, ht23, p24, p25, p26, p27, c28, c29, -⟩ := hq
    rotate_left
    ·
      have c30 : NM m m23 tg23 := NM_t NM_0 hx23 c29
      have lm31 := hx23.1
      refine Or.inr (Or.inr (Or.inr ⟨_, _, rfl, cx_exc (c := 15) ho23 ht23 (by decide), rfl, ?_⟩))
      exact Or.inr ⟨m23, tg23, ln23, F23, x23, rfl, rfl, Ex_t hX0 hx23, hC23, Fq_t (ln := ln) (ln1 := ln) hM0 hX0 hM23 (by decide) (Or.inl rfl), (And.intro ho23 ht23).1, (And.intro ho23 ht23).2, by omega, by omega, by omega, by omega, c28, c30, trivial⟩
    have hM32 : Fq 0 [(9, 3), (10, 0), (10, 1), (10, 2), (10, 9), (11, 8), (11, 12), (11, 13), (11, 14), (11, 15), (11, 16), (11, 17), (11, 18)] m tg F F8 := Fq_t (ln := ln) (ln1 := ln) hM0 hX0 hM12 (by decide) (Or.inl rfl)
    have lm33 := hx10.1
    have ho34 : own m7 (me) ∧ tg7 (me) = 9 := Ex_o hx10 ⟨o_me, t_me⟩
    have ho35 : own m7 (sc) ∧ tg7 (sc) = 11 := Ex_o hx10 ⟨o_sc, t_sc⟩
    have ho36 : own m7 (pg) ∧ tg7 (pg) = 10 := Ex_o hx10 ⟨o_pg, t_pg⟩
    have hX37 := Ex_t hX0 hx10
    have c38 : NM m m7 tg7 := NM_t NM_0 hx10 c22
    refine Or.inr (Or.inl ⟨_, rfl, ?_⟩)
    refine cx_vi (c := 6) (a := r9) (st := [rv (me)]) (as := []) rfl rfl rfl b13.1 b13.2 (by decide) rfl ⟨rfl, rfl, (by rw [jS_r, jS_0]; exact Nat.le_of_ble_eq_true rfl)⟩ rfl (k_LName_isValue (dd := d) (R := R) (m := m7) (tg := tg7) (ln := ln7) (F := F8) (me := r9) (hd := by omega) (hC := hC11) (o_me := b13.1) (t_me := b13.2)) (fun o V_q hq => ?_)
    obtain ⟨r39, rfl, rfl, b40, -⟩ := hq
    refine Or.inr (Or.inl ⟨_, rfl, ?_⟩)
    have b41 : (0 : Int) ≤ F (me) (3 : Int) ∧ F (me) (3 : Int) ≤ 8 := by have z := HC_i (c := 8) (q := 3) hC11 ho34.1 ho34.2 (by decide) rfl; rw [show F8 (me) ((3 : Nat) : Int) = F (me) (3 : Int) from (show F8 (me) (3 : Int) = F (me) (3 : Int) from hM12 _ _ o_me (own_z o_me) (by rw [t_me]; rfl))] at z; exact z
    have q42 : F8 (sc) (8 : Int) = F (sc) (8 : Int) := (show F8 (sc) (8 : Int) = F (sc) (8 : Int) from hM12 _ _ o_sc (own_z o_sc) (by rw [t_sc]; rfl))
    have q43 : F8 (sc) (15 : Int) = F (sc) (15 : Int) := (show F8 (sc) (15 : Int) = F (sc) (15 : Int) from hM12 _ _ o_sc (own_z o_sc) (by rw [t_sc]; rfl))
    have q44 : tz (F8 (sc) (15 : Int)) = tz (F (sc) (15 : Int)) := by rw [q43]
    have q45 := tz_b (F (sc) (15 : Int))
    have q46 : F8 (sc) (7 : Int) = F (sc) (7 : Int) := (show F8 (sc) (7 : Int) = F (sc) (7 : Int) from hM12 _ _ o_sc (own_z o_sc) (by rw [t_sc]; rfl))
    have q47 : F8 (sc) (14 : Int) = F (sc) (14 : Int) := (show F8 (sc) (14 : Int) = F (sc) (14 : Int) from hM12 _ _ o_sc (own_z o_sc) (by rw [t_sc]; rfl))
    have q48 : lz (F8 (sc) (14 : Int)) = lz (F (sc) (14 : Int)) := by rw [q47]
    have q49 := lz_b (F (sc) (14 : Int))
    have q50 : F8 (me) (3 : Int) = F (me) (3 : Int) := (show F8 (me) (3 : Int) = F (me) (3 : Int) from hM12 _ _ o_me (own_z o_me) (by rw [t_me]; rfl))
    have q51 : F8 (pg) (9 : Int) = F (pg) (9 : Int) := (show F8 (pg) (9 : Int) = F (pg) (9 : Int) from hM12 _ _ o_pg (own_z o_pg) (by rw [t_pg]; rfl))
    refine cx_vi (c := 8) (a := me) (st := []) (as := [.int (i32 (r39))]) rfl rfl rfl ho34.1 ho34.2 (by decide) rfl ⟨rfl, rfl, (Nat.le_of_ble_eq_true rfl)⟩ rfl (k_LParser_judged (dd := d) (R := R) (m := m7) (tg := tg7) (ln := ln7) (F := F8) (kk := kk) (hE := hE) (me := me) (wa := r39) (hd := by omega) (hC := hC11) (o_me := ho34.1) (t_me := ho34.2) (h_wa := by omega) (sc := sc) (pg := pg) (o_sc := ho35.1) (t_sc := ho35.2) (e_sc := ((show F8 (me) (1 : Int) = F (me) (1 : Int) from hM12 _ _ o_me (own_z o_me) (by rw [t_me]; rfl)).trans e_sc)) (o_pg := ho36.1) (t_pg := ho36.2) (e_pg := ((show F8 (me) (0 : Int) = F (me) (0 : Int) from hM12 _ _ o_me (own_z o_me) (by rw [t_me]; rfl)).trans e_pg)) (p_0 := by omega) (p_1 := by omega) (p_2 := by omega) (p_3 := by omega) (p_4 := by omega) (c_NP := c21)) (fun o V_q hq => ?_)
    obtain ⟨m52, tg52, ln52, F53, r54, rfl, rfl, hx55, hC56, hM57, b58, p59, p60, p61, p62, p63, p64, p65, p66, p67, p68, p69, p70, c71, c72, -⟩ | ⟨m73, tg73, ln73, F73, x73, rfl, rfl, hx73, hC73, hM73, ho73, ht73, p74, p75, p76, p77, c78, c79, -⟩ := hq
    rotate_left
    ·
      have c80 : NM m m73 tg73 := NM_t c38 hx73 c79
      have lm81 := hx73.1
      refine Or.inr (Or.inr (Or.inr ⟨_, _, rfl, cx_exc (c := 15) ho73 ht73 (by decide), rfl, ?_⟩))
      have q82 : F8 (sc) (8 : Int) = F (sc) (8 : Int) := (show F8 (sc) (8 : Int) = F (sc) (8 : Int) from hM12 _ _ o_sc (own_z o_sc) (by rw [t_sc]; rfl))
      have q83 : F8 (sc) (7 : Int) = F (sc) (7 : Int) := (show F8 (sc) (7 : Int) = F (sc) (7 : Int) from hM12 _ _ o_sc (own_z o_sc) (by rw [t_sc]; rfl))
      exact Or.inr ⟨m73, tg73, ln73, F73, x73, rfl, rfl, Ex_t hX37 hx73, hC73, Fq_t (ln := ln) (ln1 := ln7) hM32 hX37 hM73 (by decide) (Or.inl rfl), (And.intro ho73 ht73).1, (And.intro ho73 ht73).2, by omega, by omega, by omega, by omega, c78, c80, trivial⟩
    have hM84 : Fq 0 [(9, 3), (10, 0), (10, 1), (10, 2), (10, 9), (11, 8), (11, 12), (11, 13), (11, 14), (11, 15), (11, 16), (11, 17), (11, 18)] m tg F F53 := Fq_t (ln := ln) (ln1 := ln7) hM32 hX37 hM57 (by decide) (Or.inl rfl)
    have lm85 := hx55.1
    have ho86 : own m52 (me) ∧ tg52 (me) = 9 := Ex_o hx55 ⟨ho34.1, ho34.2⟩
    have ho87 : own m52 (sc) ∧ tg52 (sc) = 11 := Ex_o hx55 ⟨ho35.1, ho35.2⟩
    have ho88 : own m52 (pg) ∧ tg52 (pg) = 10 := Ex_o hx55 ⟨ho36.1, ho36.2⟩
    have hX89 := Ex_t hX37 hx55
    have q90 := p67.1
    have q91 := p67.2.1
    have q92 := p67.2.2.1
    have c93 : NM m m52 tg52 := NM_t c38 hx55 c72
    refine Or.inr (Or.inl ⟨_, rfl, ?_⟩)
    refine jx_rt (v := some (rv (r54))) rfl rfl rfl rfl rfl jr_are ?_
    have q94 : F53 (sc) (7 : Int) = F (sc) (7 : Int) := ((show F53 (sc) (7 : Int) = F8 (sc) (7 : Int) from hM57 _ _ ho35.1 (own_z ho35.1) (by rw [ho35.2]; rfl)).trans (show F8 (sc) (7 : Int) = F (sc) (7 : Int) from hM12 _ _ o_sc (own_z o_sc) (by rw [t_sc]; rfl)))
    have q95 := tz_b (F53 (sc) (15 : Int))
    have q96 := lz_b (F53 (sc) (14 : Int))
    exact Or.inl ⟨m52, tg52, ln52, F53, (r54), rfl, rfl, hX89, hC56, hM84, ⟨b58.1, b58.2⟩, by omega, by omega, by omega, by omega, by omega, by omega, by omega, by omega, (WK_m p67 (by omega)), by omega, by omega, c71, c93, trivial⟩
  by_cases h97 : F (sc) (15 : Int) = 3
  · refine jx_swe (tg := 56) h97 rfl rfl rfl rfl ?_
    have t98 : tz (F (sc) (15 : Int)) = 1 := tz_p (by omega)
    refine jx_ld (pc_q := 57) (l_q := L0) (st_q := [rv (me)]) rfl (jl_rvn g1) ?_
    refine jx_ld (pc_q := 58) (l_q := L0) (st_q := [rv (me), rv (me)]) rfl (jl_rvn g1) ?_
    refine cx_gr (pc_q := 61) (c := 8) (q := 1) (v := sc) rfl rfl (by decide) (by decide) rfl rfl o_me t_me e_sc ?_
    refine cx_gi (pc_q := 64) (c := 10) (q := 17) (v := F (sc) (17 : Int)) rfl rfl (by decide) (by decide) (Or.inl rfl) rfl o_sc t_sc rfl ?_
    have b99 : (-2147483648 : Int) ≤ F (sc) (17 : Int) ∧ F (sc) (17 : Int) ≤ 2147483647 := by have z := HC_i (c := 10) (q := 17) hC o_sc t_sc (by decide) rfl; rw [show F (sc) ((17 : Nat) : Int) = F (sc) (17 : Int) from rfl] at z; exact z
    have b100 : (0 : Int) ≤ F (me) (3 : Int) ∧ F (me) (3 : Int) ≤ 8 := by have z := HC_i (c := 8) (q := 3) hC o_me t_me (by decide) rfl; exact z
    have q101 := tz_b (F (sc) (15 : Int))
    have q102 := lz_b (F (sc) (14 : Int))
    refine cx_vi (c := 8) (a := me) (st := []) (as := [.int (i32 (F (sc) (17 : Int)))]) rfl rfl rfl o_me t_me (by decide) rfl ⟨rfl, rfl, (Nat.le_of_ble_eq_true rfl)⟩ rfl (k_LParser_numeral (dd := d) (R := R) (m := m) (tg := tg) (ln := ln) (F := F) (me := me) (v := F (sc) (17 : Int)) (hd := by omega) (hC := hC) (o_me := o_me) (t_me := t_me) (h_v := by omega) (sc := sc) (pg := pg) (o_sc := o_sc) (t_sc := t_sc) (e_sc := e_sc) (o_pg := o_pg) (t_pg := t_pg) (e_pg := e_pg) (p_0 := by omega) (p_1 := by omega) (p_2 := by omega) (p_3 := by omega) (c_NP := c_NP)) (fun o V_q hq => ?_)
    obtain ⟨m103, tg103, ln103, F104, r105, rfl, rfl, hx106, hC107, hM108, b109, p110, p111, p112, p113, p114, p115, p116, p117, p118, p119, p120, c121, c122, -⟩ | ⟨m123, tg123, ln123, F123, x123, rfl, rfl, hx123, hC123, hM123, ho123, ht123, p124, p125, p126, p127, c128, c129, -⟩ := hq
    rotate_left
    ·
      have c130 : NM m m123 tg123 := NM_t NM_0 hx123 c129
      have lm131 := hx123.1
      refine Or.inr (Or.inr (Or.inr ⟨_, _, rfl, cx_exc (c := 15) ho123 ht123 (by decide), rfl, ?_⟩))
      exact Or.inr ⟨m123, tg123, ln123, F123, x123, rfl, rfl, Ex_t hX0 hx123, hC123, Fq_t (ln := ln) (ln1 := ln) hM0 hX0 hM123 (by decide) (Or.inl rfl), (And.intro ho123 ht123).1, (And.intro ho123 ht123).2, by omega, by omega, by omega, by omega, c128, c130, trivial⟩
    have hM132 : Fq 0 [(9, 3), (10, 0), (10, 1), (10, 2), (10, 9), (11, 8), (11, 12), (11, 13), (11, 14), (11, 15), (11, 16), (11, 17), (11, 18)] m tg F F104 := Fq_t (ln := ln) (ln1 := ln) hM0 hX0 hM108 (by decide) (Or.inl rfl)
    have lm133 := hx106.1
    have ho134 : own m103 (me) ∧ tg103 (me) = 9 := Ex_o hx106 ⟨o_me, t_me⟩
    have ho135 : own m103 (sc) ∧ tg103 (sc) = 11 := Ex_o hx106 ⟨o_sc, t_sc⟩
    have ho136 : own m103 (pg) ∧ tg103 (pg) = 10 := Ex_o hx106 ⟨o_pg, t_pg⟩
    have hX137 := Ex_t hX0 hx106
    have q138 := p118.1
    have q139 := p118.2.1
    have q140 := p118.2.2.1
    have c141 : NM m m103 tg103 := NM_t NM_0 hx106 c122
    refine Or.inr (Or.inl ⟨_, rfl, ?_⟩)
    refine jx_rt (v := some (rv (r105))) rfl rfl rfl rfl rfl jr_are ?_
    have q142 : F104 (sc) (7 : Int) = F (sc) (7 : Int) := (show F104 (sc) (7 : Int) = F (sc) (7 : Int) from hM108 _ _ o_sc (own_z o_sc) (by rw [t_sc]; rfl))
    have q143 : F104 (pg) (9 : Int) = F (pg) (9 : Int) := (show F104 (pg) (9 : Int) = F (pg) (9 : Int) from hM108 _ _ o_pg (own_z o_pg) (by rw [t_pg]; rfl))
    have q144 : F104 (me) (3 : Int) = F (me) (3 : Int) := (show F104 (me) (3 : Int) = F (me) (3 : Int) from hM108 _ _ o_me (own_z o_me) (by rw [t_me]; rfl))
    have q145 := tz_b (F104 (sc) (15 : Int))
    have q146 := lz_b (F104 (sc) (14 : Int))
    have q147 : F104 (pg) (9 : Int) = F (pg) (9 : Int) := (show F104 (pg) (9 : Int) = F (pg) (9 : Int) from hM108 _ _ o_pg (own_z o_pg) (by rw [t_pg]; rfl))
    have q148 : F104 (me) (3 : Int) = F (me) (3 : Int) := (show F104 (me) (3 : Int) = F (me) (3 : Int) from hM108 _ _ o_me (own_z o_me) (by rw [t_me]; rfl))
    exact Or.inl ⟨m103, tg103, ln103, F104, (r105), rfl, rfl, hX137, hC107, hM132, ⟨b109.1, b109.2⟩, by omega, by omega, by omega, by omega, by omega, by omega, by omega, by omega, (WK_m p118 (by omega)), by omega, by omega, c121, c141, trivial⟩
  by_cases h149 : F (sc) (15 : Int) = 23
  · refine jx_swe (tg := 68) h149 rfl rfl rfl rfl ?_
    have t150 : tz (F (sc) (15 : Int)) = 1 := tz_p (by omega)
    refine jx_ld (pc_q := 69) (l_q := L0) (st_q := [rv (me)]) rfl (jl_rvn g1) ?_
    refine jx_ar (pc_q := 70) (st_q := [.int (i32 (1)), rv (me)]) rfl rfl rfl rfl ?_
    have b151 : (0 : Int) ≤ F (me) (3 : Int) ∧ F (me) (3 : Int) ≤ 8 := by have z := HC_i (c := 8) (q := 3) hC o_me t_me (by decide) rfl; exact z
    have q152 := tz_b (F (sc) (15 : Int))
    have q153 := lz_b (F (sc) (14 : Int))
    refine cx_vi (c := 8) (a := me) (st := []) (as := [.int (i32 (1))]) rfl rfl rfl o_me t_me (by decide) rfl ⟨rfl, rfl, (Nat.le_of_ble_eq_true rfl)⟩ rfl (k_LParser_numeral (dd := d) (R := R) (m := m) (tg := tg) (ln := ln) (F := F) (me := me) (v := 1) (hd := by omega) (hC := hC) (o_me := o_me) (t_me := t_me) (h_v := by omega) (sc := sc) (pg := pg) (o_sc := o_sc) (t_sc := t_sc) (e_sc := e_sc) (o_pg := o_pg) (t_pg := t_pg) (e_pg := e_pg) (p_0 := by omega) (p_1 := by omega) (p_2 := by omega) (p_3 := by omega) (c_NP := c_NP)) (fun o V_q hq => ?_)
    obtain ⟨m154, tg154, ln154, F155, r156, rfl, rfl, hx157, hC158, hM159, b160, p161, p162, p163, p164, p165, p166, p167, p168, p169, p170, p171, c172, c173, -⟩ | ⟨m174, tg174, ln174, F174, x174, rfl, rfl, hx174, hC174, hM174, ho174, ht174, p175, p176, p177, p178, c179, c180, -⟩ := hq
    rotate_left
    ·
      have c181 : NM m m174 tg174 := NM_t NM_0 hx174 c180
      have lm182 := hx174.1
      refine Or.inr (Or.inr (Or.inr ⟨_, _, rfl, cx_exc (c := 15) ho174 ht174 (by decide), rfl, ?_⟩))
      exact Or.inr ⟨m174, tg174, ln174, F174, x174, rfl, rfl, Ex_t hX0 hx174, hC174, Fq_t (ln := ln) (ln1 := ln) hM0 hX0 hM174 (by decide) (Or.inl rfl), (And.intro ho174 ht174).1, (And.intro ho174 ht174).2, by omega, by omega, by omega, by omega, c179, c181, trivial⟩
    have hM183 : Fq 0 [(9, 3), (10, 0), (10, 1), (10, 2), (10, 9), (11, 8), (11, 12), (11, 13), (11, 14), (11, 15), (11, 16), (11, 17), (11, 18)] m tg F F155 := Fq_t (ln := ln) (ln1 := ln) hM0 hX0 hM159 (by decide) (Or.inl rfl)
    have lm184 := hx157.1
    have ho185 : own m154 (me) ∧ tg154 (me) = 9 := Ex_o hx157 ⟨o_me, t_me⟩
    have ho186 : own m154 (sc) ∧ tg154 (sc) = 11 := Ex_o hx157 ⟨o_sc, t_sc⟩
    have ho187 : own m154 (pg) ∧ tg154 (pg) = 10 := Ex_o hx157 ⟨o_pg, t_pg⟩
    have hX188 := Ex_t hX0 hx157
    have q189 := p169.1
    have q190 := p169.2.1
    have q191 := p169.2.2.1
    have c192 : NM m m154 tg154 := NM_t NM_0 hx157 c173
    refine Or.inr (Or.inl ⟨_, rfl, ?_⟩)
    refine jx_rt (v := some (rv (r156))) rfl rfl rfl rfl rfl jr_are ?_
    have q193 : F155 (sc) (7 : Int) = F (sc) (7 : Int) := (show F155 (sc) (7 : Int) = F (sc) (7 : Int) from hM159 _ _ o_sc (own_z o_sc) (by rw [t_sc]; rfl))
    have q194 : F155 (pg) (9 : Int) = F (pg) (9 : Int) := (show F155 (pg) (9 : Int) = F (pg) (9 : Int) from hM159 _ _ o_pg (own_z o_pg) (by rw [t_pg]; rfl))
    have q195 : F155 (me) (3 : Int) = F (me) (3 : Int) := (show F155 (me) (3 : Int) = F (me) (3 : Int) from hM159 _ _ o_me (own_z o_me) (by rw [t_me]; rfl))
    have q196 := tz_b (F155 (sc) (15 : Int))
    have q197 := lz_b (F155 (sc) (14 : Int))
    have q198 : F155 (pg) (9 : Int) = F (pg) (9 : Int) := (show F155 (pg) (9 : Int) = F (pg) (9 : Int) from hM159 _ _ o_pg (own_z o_pg) (by rw [t_pg]; rfl))
    have q199 : F155 (me) (3 : Int) = F (me) (3 : Int) := (show F155 (me) (3 : Int) = F (me) (3 : Int) from hM159 _ _ o_me (own_z o_me) (by rw [t_me]; rfl))
    exact Or.inl ⟨m154, tg154, ln154, F155, (r156), rfl, rfl, hX188, hC158, hM183, ⟨b160.1, b160.2⟩, by omega, by omega, by omega, by omega, by omega, by omega, by omega, by omega, (WK_m p169 (by omega)), by omega, by omega, c172, c192, trivial⟩
  by_cases h200 : F (sc) (15 : Int) = 24
  · refine jx_swe (tg := 103) h200 rfl rfl rfl rfl ?_
    have t201 : tz (F (sc) (15 : Int)) = 1 := tz_p (by omega)
    refine jx_ld (pc_q := 104) (l_q := L0) (st_q := [rv (me)]) rfl (jl_rvn g1) ?_
    refine jx_ar (pc_q := 105) (st_q := [.int (i32 (0)), rv (me)]) rfl rfl rfl rfl ?_
    have b202 : (0 : Int) ≤ F (me) (3 : Int) ∧ F (me) (3 : Int) ≤ 8 := by have z := HC_i (c := 8) (q := 3) hC o_me t_me (by decide) rfl; exact z
    have q203 := tz_b (F (sc) (15 : Int))
    have q204 := lz_b (F (sc) (14 : Int))
    refine cx_vi (c := 8) (a := me) (st := []) (as := [.int (i32 (0))]) rfl rfl rfl o_me t_me (by decide) rfl ⟨rfl, rfl, (Nat.le_of_ble_eq_true rfl)⟩ rfl (k_LParser_numeral (dd := d) (R := R) (m := m) (tg := tg) (ln := ln) (F := F) (me := me) (v := 0) (hd := by omega) (hC := hC) (o_me := o_me) (t_me := t_me) (h_v := by omega) (sc := sc) (pg := pg) (o_sc := o_sc) (t_sc := t_sc) (e_sc := e_sc) (o_pg := o_pg) (t_pg := t_pg) (e_pg := e_pg) (p_0 := by omega) (p_1 := by omega) (p_2 := by omega) (p_3 := by omega) (c_NP := c_NP)) (fun o V_q hq => ?_)
    obtain ⟨m205, tg205, ln205, F206, r207, rfl, rfl, hx208, hC209, hM210, b211, p212, p213, p214, p215, p216, p217, p218, p219, p220, p221, p222, c223, c224, -⟩ | ⟨m225, tg225, ln225, F225, x225, rfl, rfl, hx225, hC225, hM225, ho225, ht225, p226, p227, p228, p229, c230, c231, -⟩ := hq
    rotate_left
    ·
      have c232 : NM m m225 tg225 := NM_t NM_0 hx225 c231
      have lm233 := hx225.1
      refine Or.inr (Or.inr (Or.inr ⟨_, _, rfl, cx_exc (c := 15) ho225 ht225 (by decide), rfl, ?_⟩))
      exact Or.inr ⟨m225, tg225, ln225, F225, x225, rfl, rfl, Ex_t hX0 hx225, hC225, Fq_t (ln := ln) (ln1 := ln) hM0 hX0 hM225 (by decide) (Or.inl rfl), (And.intro ho225 ht225).1, (And.intro ho225 ht225).2, by omega, by omega, by omega, by omega, c230, c232, trivial⟩
    have hM234 : Fq 0 [(9, 3), (10, 0), (10, 1), (10, 2), (10, 9), (11, 8), (11, 12), (11, 13), (11, 14), (11, 15), (11, 16), (11, 17), (11, 18)] m tg F F206 := Fq_t (ln := ln) (ln1 := ln) hM0 hX0 hM210 (by decide) (Or.inl rfl)
    have lm235 := hx208.1
    have ho236 : own m205 (me) ∧ tg205 (me) = 9 := Ex_o hx208 ⟨o_me, t_me⟩
    have ho237 : own m205 (sc) ∧ tg205 (sc) = 11 := Ex_o hx208 ⟨o_sc, t_sc⟩
    have ho238 : own m205 (pg) ∧ tg205 (pg) = 10 := Ex_o hx208 ⟨o_pg, t_pg⟩
    have hX239 := Ex_t hX0 hx208
    have q240 := p220.1
    have q241 := p220.2.1
    have q242 := p220.2.2.1
    have c243 : NM m m205 tg205 := NM_t NM_0 hx208 c224
    refine Or.inr (Or.inl ⟨_, rfl, ?_⟩)
    refine jx_rt (v := some (rv (r207))) rfl rfl rfl rfl rfl jr_are ?_
    have q244 : F206 (sc) (7 : Int) = F (sc) (7 : Int) := (show F206 (sc) (7 : Int) = F (sc) (7 : Int) from hM210 _ _ o_sc (own_z o_sc) (by rw [t_sc]; rfl))
    have q245 : F206 (pg) (9 : Int) = F (pg) (9 : Int) := (show F206 (pg) (9 : Int) = F (pg) (9 : Int) from hM210 _ _ o_pg (own_z o_pg) (by rw [t_pg]; rfl))
    have q246 : F206 (me) (3 : Int) = F (me) (3 : Int) := (show F206 (me) (3 : Int) = F (me) (3 : Int) from hM210 _ _ o_me (own_z o_me) (by rw [t_me]; rfl))
    have q247 := tz_b (F206 (sc) (15 : Int))
    have q248 := lz_b (F206 (sc) (14 : Int))
    have q249 : F206 (pg) (9 : Int) = F (pg) (9 : Int) := (show F206 (pg) (9 : Int) = F (pg) (9 : Int) from hM210 _ _ o_pg (own_z o_pg) (by rw [t_pg]; rfl))
    have q250 : F206 (me) (3 : Int) = F (me) (3 : Int) := (show F206 (me) (3 : Int) = F (me) (3 : Int) from hM210 _ _ o_me (own_z o_me) (by rw [t_me]; rfl))
    exact Or.inl ⟨m205, tg205, ln205, F206, (r207), rfl, rfl, hX239, hC209, hM234, ⟨b211.1, b211.2⟩, by omega, by omega, by omega, by omega, by omega, by omega, by omega, by omega, (WK_m p220 (by omega)), by omega, by omega, c223, c243, trivial⟩
  by_cases h251 : F (sc) (15 : Int) = 54
  · refine jx_swe (tg := 86) h251 rfl rfl rfl rfl ?_
    have t252 : tz (F (sc) (15 : Int)) = 1 := tz_p (by omega)
    refine jx_ld (pc_q := 87) (l_q := L0) (st_q := [rv (me)]) rfl (jl_rvn g1) ?_
    have b253 : (0 : Int) ≤ F (me) (3 : Int) ∧ F (me) (3 : Int) ≤ 8 := by have z := HC_i (c := 8) (q := 3) hC o_me t_me (by decide) rfl; exact z
    have q254 := tz_b (F (sc) (15 : Int))
    have q255 := lz_b (F (sc) (14 : Int))
    refine cx_vi (c := 8) (a := me) (st := []) (as := []) rfl rfl rfl o_me t_me (by decide) rfl ⟨rfl, rfl, (Nat.le_of_ble_eq_true rfl)⟩ rfl (k_LParser_openBracket (dd := d) (R := R) (m := m) (tg := tg) (ln := ln) (F := F) (me := me) (hd := by omega) (hC := hC) (o_me := o_me) (t_me := t_me) (sc := sc) (pg := pg) (o_sc := o_sc) (t_sc := t_sc) (e_sc := e_sc) (o_pg := o_pg) (t_pg := t_pg) (e_pg := e_pg) (p_0 := by omega) (p_1 := by omega) (p_2 := by omega) (p_3 := by omega) (c_NP := c_NP)) (fun o V_q hq => ?_)
    obtain ⟨m256, tg256, ln256, F257, rfl, rfl, hx258, hC259, hM260, p261, p262, p263, p264, p265, p266, p267, p268, p269, c270, c271, -⟩ | ⟨m272, tg272, ln272, F272, x272, rfl, rfl, hx272, hC272, hM272, ho272, ht272, p273, p274, p275, p276, c277, c278, -⟩ := hq
    rotate_left
    ·
      have c279 : NM m m272 tg272 := NM_t NM_0 hx272 c278
      have lm280 := hx272.1
      refine Or.inr (Or.inr (Or.inr ⟨_, _, rfl, cx_exc (c := 15) ho272 ht272 (by decide), rfl, ?_⟩))
      exact Or.inr ⟨m272, tg272, ln272, F272, x272, rfl, rfl, Ex_t hX0 hx272, hC272, Fq_t (ln := ln) (ln1 := ln) hM0 hX0 hM272 (by decide) (Or.inl rfl), (And.intro ho272 ht272).1, (And.intro ho272 ht272).2, by omega, by omega, by omega, by omega, c277, c279, trivial⟩
    have hM281 : Fq 0 [(9, 3), (10, 0), (10, 1), (10, 2), (10, 9), (11, 8), (11, 12), (11, 13), (11, 14), (11, 15), (11, 16), (11, 17), (11, 18)] m tg F F257 := Fq_t (ln := ln) (ln1 := ln) hM0 hX0 hM260 (by decide) (Or.inl rfl)
    have lm282 := hx258.1
    have ho283 : own m256 (me) ∧ tg256 (me) = 9 := Ex_o hx258 ⟨o_me, t_me⟩
    have ho284 : own m256 (sc) ∧ tg256 (sc) = 11 := Ex_o hx258 ⟨o_sc, t_sc⟩
    have ho285 : own m256 (pg) ∧ tg256 (pg) = 10 := Ex_o hx258 ⟨o_pg, t_pg⟩
    have hX286 := Ex_t hX0 hx258
    have c287 : NM m m256 tg256 := NM_t NM_0 hx258 c271
    refine Or.inl ⟨rfl, ?_⟩
    refine jx_ld (pc_q := 91) (l_q := L0) (st_q := [rv (me)]) rfl (jl_rvn g1) ?_
    have b288 : (0 : Int) ≤ F257 (me) (3 : Int) ∧ F257 (me) (3 : Int) ≤ 8 := by have z := HC_i (c := 8) (q := 3) hC259 ho283.1 ho283.2 (by decide) rfl; exact z
    have q289 := tz_b (F257 (sc) (15 : Int))
    have q290 : F257 (sc) (7 : Int) = F (sc) (7 : Int) := (show F257 (sc) (7 : Int) = F (sc) (7 : Int) from hM260 _ _ o_sc (own_z o_sc) (by rw [t_sc]; rfl))
    have q291 := lz_b (F257 (sc) (14 : Int))
    have q292 : F257 (pg) (9 : Int) = F (pg) (9 : Int) := (show F257 (pg) (9 : Int) = F (pg) (9 : Int) from hM260 _ _ o_pg (own_z o_pg) (by rw [t_pg]; rfl))
    have hE293 := hE (by omega)
    refine cx_vi (c := 8) (a := me) (st := []) (as := []) rfl rfl rfl ho283.1 ho283.2 (by decide) rfl ⟨rfl, rfl, (Nat.le_of_ble_eq_true rfl)⟩ rfl (hE293 (dd := d) (R := R) (m := m256) (tg := tg256) (ln := ln256) (F := F257) (me := me) (hd := by omega) (hC := hC259) (o_me := ho283.1) (t_me := ho283.2) (sc := sc) (pg := pg) (o_sc := ho284.1) (t_sc := ho284.2) (e_sc := ((show F257 (me) (1 : Int) = F (me) (1 : Int) from hM260 _ _ o_me (own_z o_me) (by rw [t_me]; rfl)).trans e_sc)) (o_pg := ho285.1) (t_pg := ho285.2) (e_pg := ((show F257 (me) (0 : Int) = F (me) (0 : Int) from hM260 _ _ o_me (own_z o_me) (by rw [t_me]; rfl)).trans e_pg)) (p_0 := by omega) (p_1 := by omega) (p_2 := by omega) (p_3 := by omega) (c_NP := c270)) (fun o V_q hq => ?_)
    obtain ⟨m294, tg294, ln294, F295, r296, rfl, rfl, hx297, hC298, hM299, b300, p301, p302, p303, p304, p305, p306, p307, p308, p309, p310, p311, c312, c313, -⟩ | ⟨m314, tg314, ln314, F314, x314, rfl, rfl, hx314, hC314, hM314, ho314, ht314, p315, p316, p317, p318, c319, c320, -⟩ := hq
    rotate_left
    ·
      have c321 : NM m m314 tg314 := NM_t c287 hx314 c320
      have lm322 := hx314.1
      refine Or.inr (Or.inr (Or.inr ⟨_, _, rfl, cx_exc (c := 15) ho314 ht314 (by decide), rfl, ?_⟩))
      have q323 : F257 (sc) (7 : Int) = F (sc) (7 : Int) := (show F257 (sc) (7 : Int) = F (sc) (7 : Int) from hM260 _ _ o_sc (own_z o_sc) (by rw [t_sc]; rfl))
      exact Or.inr ⟨m314, tg314, ln314, F314, x314, rfl, rfl, Ex_t hX286 hx314, hC314, Fq_t (ln := ln) (ln1 := ln256) hM281 hX286 hM314 (by decide) (Or.inl rfl), (And.intro ho314 ht314).1, (And.intro ho314 ht314).2, by omega, by omega, by omega, by omega, c319, c321, trivial⟩
    have hM324 : Fq 0 [(9, 3), (10, 0), (10, 1), (10, 2), (10, 9), (11, 8), (11, 12), (11, 13), (11, 14), (11, 15), (11, 16), (11, 17), (11, 18)] m tg F F295 := Fq_t (ln := ln) (ln1 := ln256) hM281 hX286 hM299 (by decide) (Or.inl rfl)
    have lm325 := hx297.1
    have ho326 : own m294 (me) ∧ tg294 (me) = 9 := Ex_o hx297 ⟨ho283.1, ho283.2⟩
    have ho327 : own m294 (sc) ∧ tg294 (sc) = 11 := Ex_o hx297 ⟨ho284.1, ho284.2⟩
    have ho328 : own m294 (pg) ∧ tg294 (pg) = 10 := Ex_o hx297 ⟨ho285.1, ho285.2⟩
    have hX329 := Ex_t hX286 hx297
    have q330 := p309.1
    have q331 := p309.2.1
    have q332 := p309.2.2.1
    have c333 : NM m m294 tg294 := NM_t c287 hx297 c313
    refine Or.inr (Or.inl ⟨_, rfl, ?_⟩)
    refine jx_ld (pc_q := 95) (l_q := jSto1 L0 1 (rv (r296))) (st_q := []) rfl (js_rvn (by decide)) ?_
    obtain ⟨L334, eL334⟩ : ∃ q : jL, q = jSto1 L0 1 (rv (r296)) := ⟨_, rfl⟩
    rw [← eL334]
    have g335 : jGet L334 0 = some (rv (me)) := eL334 ▸ jg_nr (by decide) g1
    have g336 : jGet L334 1 = some (rv (r296)) := eL334 ▸ jg_eq
    clear eL334
    refine jx_ld (pc_q := 96) (l_q := L334) (st_q := [rv (me)]) rfl (jl_rvn g335) ?_
    refine jx_ar (pc_q := 98) (st_q := [.int (i32 (55)), rv (me)]) rfl rfl rfl rfl ?_
    have b337 : (0 : Int) ≤ F295 (me) (3 : Int) ∧ F295 (me) (3 : Int) ≤ 8 := by have z := HC_i (c := 8) (q := 3) hC298 ho326.1 ho326.2 (by decide) rfl; exact z
    have q338 := tz_b (F295 (sc) (15 : Int))
    have q339 : F295 (sc) (7 : Int) = F (sc) (7 : Int) := ((show F295 (sc) (7 : Int) = F257 (sc) (7 : Int) from hM299 _ _ ho284.1 (own_z ho284.1) (by rw [ho284.2]; rfl)).trans (show F257 (sc) (7 : Int) = F (sc) (7 : Int) from hM260 _ _ o_sc (own_z o_sc) (by rw [t_sc]; rfl)))
    have q340 := lz_b (F295 (sc) (14 : Int))
    refine cx_vi (c := 8) (a := me) (st := []) (as := [.int (i32 (55))]) rfl rfl rfl ho326.1 ho326.2 (by decide) rfl ⟨rfl, rfl, (Nat.le_of_ble_eq_true rfl)⟩ rfl (k_LParser_closeBracket (dd := d) (R := R) (m := m294) (tg := tg294) (ln := ln294) (F := F295) (me := me) (tk := 55) (hd := by omega) (hC := hC298) (o_me := ho326.1) (t_me := ho326.2) (h_tk := by omega) (sc := sc) (pg := pg) (o_sc := ho327.1) (t_sc := ho327.2) (e_sc := (((show F295 (me) (1 : Int) = F257 (me) (1 : Int) from hM299 _ _ ho283.1 (own_z ho283.1) (by rw [ho283.2]; rfl)).trans (show F257 (me) (1 : Int) = F (me) (1 : Int) from hM260 _ _ o_me (own_z o_me) (by rw [t_me]; rfl))).trans e_sc)) (o_pg := ho328.1) (t_pg := ho328.2) (e_pg := (((show F295 (me) (0 : Int) = F257 (me) (0 : Int) from hM299 _ _ ho283.1 (own_z ho283.1) (by rw [ho283.2]; rfl)).trans (show F257 (me) (0 : Int) = F (me) (0 : Int) from hM260 _ _ o_me (own_z o_me) (by rw [t_me]; rfl))).trans e_pg)) (p_0 := by omega) (p_1 := by omega) (p_2 := by omega) (p_3 := by omega) (p_4 := by omega) (c_NP := c312)) (fun o V_q hq => ?_)
    obtain ⟨m341, tg341, ln341, F342, rfl, rfl, hx343, hC344, hM345, p346, p347, p348, p349, p350, p351, p352, p353, c354, c355, -⟩ | ⟨m356, tg356, ln356, F356, x356, rfl, rfl, hx356, hC356, hM356, ho356, ht356, p357, p358, p359, p360, c361, c362, -⟩ := hq
    rotate_left
    ·
      have c363 : NM m m356 tg356 := NM_t c333 hx356 c362
      have lm364 := hx356.1
      refine Or.inr (Or.inr (Or.inr ⟨_, _, rfl, cx_exc (c := 15) ho356 ht356 (by decide), rfl, ?_⟩))
      have q365 : F295 (sc) (7 : Int) = F (sc) (7 : Int) := ((show F295 (sc) (7 : Int) = F257 (sc) (7 : Int) from hM299 _ _ ho284.1 (own_z ho284.1) (by rw [ho284.2]; rfl)).trans (show F257 (sc) (7 : Int) = F (sc) (7 : Int) from hM260 _ _ o_sc (own_z o_sc) (by rw [t_sc]; rfl)))
      exact Or.inr ⟨m356, tg356, ln356, F356, x356, rfl, rfl, Ex_t hX329 hx356, hC356, Fq_t (ln := ln) (ln1 := ln294) hM324 hX329 hM356 (by decide) (Or.inl rfl), (And.intro ho356 ht356).1, (And.intro ho356 ht356).2, by omega, by omega, by omega, by omega, c361, c363, trivial⟩
    have hM366 : Fq 0 [(9, 3), (10, 0), (10, 1), (10, 2), (10, 9), (11, 8), (11, 12), (11, 13), (11, 14), (11, 15), (11, 16), (11, 17), (11, 18)] m tg F F342 := Fq_t (ln := ln) (ln1 := ln294) hM324 hX329 hM345 (by decide) (Or.inl rfl)
    have lm367 := hx343.1
    have lt368 : r296 < 64 + (m294 : Int) := b300.1.2.1
    have ho369 : own m341 (me) ∧ tg341 (me) = 9 := Ex_o hx343 ⟨ho326.1, ho326.2⟩
    have ho370 : own m341 (r296) ∧ tg341 (r296) = 8 := Ex_o hx343 ⟨b300.1, b300.2⟩
    have ho371 : own m341 (sc) ∧ tg341 (sc) = 11 := Ex_o hx343 ⟨ho327.1, ho327.2⟩
    have ho372 : own m341 (pg) ∧ tg341 (pg) = 10 := Ex_o hx343 ⟨ho328.1, ho328.2⟩
    have hX373 := Ex_t hX329 hx343
    have w374 : WK F342 r296 (18 - 2 * F257 me (3 : Int)) := WK_q p309 hC298 b300.1 b300.2 hM345 rfl
    have c375 : NM m m341 tg341 := NM_t c333 hx343 c355
    refine Or.inl ⟨rfl, ?_⟩
    refine jx_ld (pc_q := 102) (l_q := L334) (st_q := [rv (r296)]) rfl (jl_rvn g336) ?_
    refine jx_rt (v := some (rv (r296))) rfl rfl rfl rfl rfl jr_are ?_
    have q376 : F342 (sc) (7 : Int) = F (sc) (7 : Int) := ((show F342 (sc) (7 : Int) = F295 (sc) (7 : Int) from hM345 _ _ ho327.1 (own_z ho327.1) (by rw [ho327.2]; rfl)).trans ((show F295 (sc) (7 : Int) = F257 (sc) (7 : Int) from hM299 _ _ ho284.1 (own_z ho284.1) (by rw [ho284.2]; rfl)).trans (show F257 (sc) (7 : Int) = F (sc) (7 : Int) from hM260 _ _ o_sc (own_z o_sc) (by rw [t_sc]; rfl))))
    have q377 : F342 (pg) (9 : Int) = F295 (pg) (9 : Int) := (show F342 (pg) (9 : Int) = F295 (pg) (9 : Int) from hM345 _ _ ho328.1 (own_z ho328.1) (by rw [ho328.2]; rfl))
    have q378 := tz_b (F342 (sc) (15 : Int))
    have q379 := lz_b (F342 (sc) (14 : Int))
    have q380 : F342 (pg) (9 : Int) = F295 (pg) (9 : Int) := (show F342 (pg) (9 : Int) = F295 (pg) (9 : Int) from hM345 _ _ ho328.1 (own_z ho328.1) (by rw [ho328.2]; rfl))
    have q381 : F342 (r296) (0 : Int) = F295 (r296) (0 : Int) := (show F342 (r296) (0 : Int) = F295 (r296) (0 : Int) from hM345 _ _ b300.1 (own_z b300.1) (by rw [b300.2]; rfl))
    exact Or.inl ⟨m341, tg341, ln341, F342, (r296), rfl, rfl, hX373, hC344, hM366, ⟨ho370.1, ho370.2⟩, by omega, by omega, by omega, by omega, by omega, by omega, by omega, by omega, (WK_m w374 (by omega)), by omega, by omega, c354, c375, trivial⟩
  refine jx_swd (tg := 109) (by omega) (by omega) rfl (by decide) (by simp; omega) rfl ?_
  refine jx_ld (pc_q := 110) (l_q := L0) (st_q := [rv (me)]) rfl (jl_rvn g1) ?_
  refine cx_vi (c := 8) (a := me) (st := []) (as := []) rfl rfl rfl o_me t_me (by decide) rfl ⟨rfl, rfl, (Nat.le_of_ble_eq_true rfl)⟩ rfl (k_LParser_form (dd := d) (R := R) (m := m) (tg := tg) (ln := ln) (F := F) (me := me) (hd := by omega) (hC := hC) (o_me := o_me) (t_me := t_me) (sc := sc) (pg := pg) (o_sc := o_sc) (t_sc := t_sc) (e_sc := e_sc) (o_pg := o_pg) (t_pg := t_pg) (e_pg := e_pg) (p_0 := by omega) (c_NP := c_NP)) (fun o V_q hq => ?_)
  obtain ⟨m382, tg382, ln382, F383, rfl, rfl, hx384, hC385, hM386, p387, c388, c389, -⟩ | ⟨m390, tg390, ln390, F390, x390, rfl, rfl, hx390, hC390, hM390, ho390, ht390, p391, p392, p393, p394, c395, c396, -⟩ := hq
  rotate_left
  ·
    have c397 : NM m m390 tg390 := NM_t NM_0 hx390 c396
    have lm398 := hx390.1
    refine Or.inr (Or.inr (Or.inr ⟨_, _, rfl, cx_exc (c := 15) ho390 ht390 (by decide), rfl, ?_⟩))
    exact Or.inr ⟨m390, tg390, ln390, F390, x390, rfl, rfl, Ex_t hX0 hx390, hC390, Fq_t (ln := ln) (ln1 := ln) hM0 hX0 hM390 (by decide) (Or.inl rfl), (And.intro ho390 ht390).1, (And.intro ho390 ht390).2, by omega, by omega, by omega, by omega, c395, c397, trivial⟩
  exact p387.elim
set_option maxRecDepth 20000 in
set_option maxHeartbeats 4000000 in
theorem k_LParser_operated {X : jX} {kk : Nat} (hE : 1 ≤ kk → PEx X (kk - 1)) {dd : Nat} {R : Nat → jC} {m : Nat} {tg ln : Int → Int} {F : Int → Int → Int} {me lf : Int} (hd : 5 * kk + 7 ≤ dd) (hC : HC 0 m tg ln F) {sc pg : Int} (o_sc : own m sc) (t_sc : tg sc = 11) (e_sc : F me (1 : Int) = sc) (o_pg : own m pg) (t_pg : tg pg = 10) (e_pg : F me (0 : Int) = pg) (o_me : own m me) (t_me : tg me = 9) (o_lf : own m lf) (t_lf : tg lf = 8) (p_0 : F sc (8 : Int) + 2 * tz (F sc (15 : Int)) ≤ F sc (7 : Int) + 1) (p_1 : F sc (8 : Int) + 2 * lz (F sc (14 : Int)) ≤ F sc (7 : Int) + 1) (p_2 : F sc (8 : Int) ≤ F sc (7 : Int)) (p_3 : 9 ≤ (kk : Int) + F me (3 : Int)) (p_4 : 20 ≤ F lf (0 : Int)) (c_NP : NP m tg F) (wk_lf : WK F lf (17 - 2 * F me (3 : Int))) : wk X dd 201 [rv me, rv lf] (cV R m tg ln F) (fun o V_q => (∃ (m_q : Nat) (tg_q ln_q : Int → Int) (F_q : Int → Int → Int) (r : Int), V_q = cV R m_q tg_q ln_q F_q ∧ o = .inl (some (rv r)) ∧ Ex m tg ln m_q tg_q ln_q ∧ HC 0 m_q tg_q ln_q F_q ∧ Fq lf [(9, 3), (10, 0), (10, 1), (10, 2), (10, 9), (11, 8), (11, 12), (11, 13), (11, 14), (11, 15), (11, 16), (11, 17), (11, 18)] m tg F F_q ∧ (own m_q r ∧ tg_q r = 8) ∧ (F_q sc (8 : Int) + 2 * tz (F_q sc (15 : Int)) ≤ F sc (7 : Int) + 1) ∧ (F_q sc (8 : Int) + 2 * lz (F_q sc (14 : Int)) ≤ F sc (7 : Int) + 1) ∧ (F_q sc (8 : Int) ≤ F sc (7 : Int)) ∧ (F sc (8 : Int) ≤ F_q sc (8 : Int)) ∧ (szD m_q tg_q ln_q = szD m tg ln + 25 * ((m_q : Int) - (m : Int))) ∧ ((m_q : Int) ≤ (m : Int) + (F_q sc (8 : Int) - F sc (8 : Int)) + (0)) ∧ (F_q pg (9 : Int) ≤ F pg (9 : Int) + ((m_q : Int) - (m : Int))) ∧ (lf ≤ r) ∧ (WK F_q r (18 - 2 * F me (3 : Int))) ∧ (20 ≤ F_q r (0 : Int)) ∧ (F_q me (3 : Int) = F me (3 : Int)) ∧ (NP m_q tg_q F_q) ∧ (NM m m_q tg_q) ∧ True) ∨ (∃ (m_q : Nat) (tg_q ln_q : Int → Int) (F_q : Int → Int → Int) (x : Nat), V_q = cV R m_q tg_q ln_q F_q ∧ o = .inr x ∧ Ex m tg ln m_q tg_q ln_q ∧ HC 0 m_q tg_q ln_q F_q ∧ Fq lf [(9, 3), (10, 0), (10, 1), (10, 2), (10, 9), (11, 8), (11, 12), (11, 13), (11, 14), (11, 15), (11, 16), (11, 17), (11, 18)] m tg F F_q ∧ (own m_q (x : Int)) ∧ (tg_q (x : Int) = 16) ∧ (F_q pg (0 : Int) ≠ 0) ∧ (szD m_q tg_q ln_q = szD m tg ln + 25 * ((m_q : Int) - (m : Int))) ∧ ((m_q : Int) ≤ (m : Int) + (F_q sc (8 : Int) - F sc (8 : Int)) + (1)) ∧ (F_q sc (8 : Int) ≤ F sc (7 : Int) + 1) ∧ (NP m_q tg_q F_q) ∧ (NM m m_q tg_q) ∧ True)) := by
  obtain ⟨d, rfl⟩ : ∃ d, dd = d + 1 := ⟨dd - 1, by omega⟩
  refine wk_of (e := jm201) rfl (by rw [jS_r, jS_r, jS_0]; exact Nat.le_of_ble_eq_true rfl) ?_
  rw [la_r, la_r, la_0]
  show wj X d jm201 (0, [(0, rv (me)), (1, rv (lf))], [], cV R m tg ln F) _
  have hM0 : Fq lf [(9, 3), (10, 0), (10, 1), (10, 2), (10, 9), (11, 8), (11, 12), (11, 13), (11, 14), (11, 15), (11, 16), (11, 17), (11, 18)] m tg F F := Fq_r
  have hX0 : Ex m tg ln m tg ln := Ex_r
  obtain ⟨L0, eL0⟩ : ∃ q : jL, q = [(0, rv (me)), (1, rv (lf))] := ⟨_, rfl⟩
  rw [← eL0]
  have g1 : jGet L0 0 = some (rv (me)) := eL0 ▸ (rfl : jGet [(0, rv (me)), (1, rv (lf))] 0 = some (rv (me)))
  have g2 : jGet L0 1 = some (rv (lf)) := eL0 ▸ (rfl : jGet [(0, rv (me)), (1, rv (lf))] 1 = some (rv (lf)))
  clear eL0
  have tb0 := tz_b (F sc (15 : Int))
  have lb0 := lz_b (F sc (14 : Int))
  have ob0 : (0 : Int) ≤ F me (3 : Int) ∧ F me (3 : Int) ≤ 8 := HC_i (c := 8) (q := 3) hC o_me t_me (by decide) rfl
  have tp0 : F me (2 : Int) < 64 + (m : Int) := by
    have z : F me (2 : Int) = 0 ∨ (own m (F me (2 : Int)) ∧ tg (F me (2 : Int)) = 7) := HC_r (c := 8) (q := 2) hC o_me t_me (by decide) rfl
    rcases z with w | w
    · omega
    · exact w.1.2.1
  have nz_lf := own_z o_lf
  have q3 := wk_lf.1
  have q4 := wk_lf.2.1
  have q5 := wk_lf.2.2.1
  refine jx_ld (pc_q := 1) (l_q := L0) (st_q := [rv (me)]) rfl (jl_rvn g1) ?_
  refine cx_gr (pc_q := 4) (c := 8) (q := 1) (v := sc) rfl rfl (by decide) (by decide) rfl rfl o_me t_me e_sc ?_
  have q6 := tz_b (F (sc) (15 : Int))
  refine cx_vi (c := 10) (a := sc) (st := []) (as := []) rfl rfl rfl o_sc t_sc (by decide) rfl ⟨rfl, rfl, (Nat.le_of_ble_eq_true rfl)⟩ rfl (k_LScanner_isOp2 (dd := d) (R := R) (m := m) (tg := tg) (ln := ln) (F := F) (me := sc) (hd := by omega) (hC := hC) (o_me := o_sc) (t_me := t_sc)) (fun o V_q hq => ?_)
  obtain ⟨r7, rfl, rfl, b8, p9, -⟩ := hq
  refine Or.inr (Or.inl ⟨_, rfl, ?_⟩)
  refine jx_if_ne (pc_q := 10) (tg := 12) rfl rfl rfl (by omega) (by omega) (fun h10 => ?_) (fun h10 => ?_)
  · have _q := h10
    refine cx_newp (pc_q := 15) (c := 7) rfl rfl (by decide) rfl rfl hC rfl (by decide) (fun n11 m11 tg11 ln11 F11 en11 em11 ho11 hx11 hC11 hf11 h011 hs11 => ?_)
    have ex11 : 64 + (m : Int) ≤ n11 := by have := hX0.1; omega
    have lm12 := hx11.1
    have lt13 : lf < 64 + (m : Int) := o_lf.2.1
    have ho14 : own m11 (me) ∧ tg11 (me) = 9 := Ex_o hx11 ⟨o_me, t_me⟩
    have ho15 : own m11 (lf) ∧ tg11 (lf) = 8 := Ex_o hx11 ⟨o_lf, t_lf⟩
    have ho16 : own m11 (sc) ∧ tg11 (sc) = 11 := Ex_o hx11 ⟨o_sc, t_sc⟩
    have ho17 : own m11 (pg) ∧ tg11 (pg) = 10 := Ex_o hx11 ⟨o_pg, t_pg⟩
    have hX18 := Ex_t hX0 hx11
    have hM19 : Fq lf [(9, 3), (10, 0), (10, 1), (10, 2), (10, 9), (11, 8), (11, 12), (11, 13), (11, 14), (11, 15), (11, 16), (11, 17), (11, 18)] m tg F F11 := Fq_n hM0 hf11 ex11
    have w20 : WK F11 lf (17 - 2 * F me (3 : Int)) := WK_n wk_lf hC o_lf t_lf (fun b i ob => hf11 b i (ne_n ob en11))
    have c21 : NM m m11 tg11 := NM_n NM_0 hC.1 hx11 en11 em11 ho11.2 (by decide)
    refine jx_ar (pc_q := 16) (st_q := [rv (n11), rv (n11)]) rfl rfl ja_dup rfl ?_
    refine jx_ar (pc_q := 18) (st_q := [.int (i32 (22)), rv (n11), rv (n11)]) rfl rfl rfl rfl ?_
    refine jx_ld (pc_q := 19) (l_q := L0) (st_q := [rv (me), .int (i32 (22)), rv (n11), rv (n11)]) rfl (jl_rvn g1) ?_
    refine cx_gr (pc_q := 22) (c := 8) (q := 1) (v := sc) rfl rfl (by decide) (by decide) rfl rfl ho14.1 ho14.2 ((show F11 (me) (1 : Int) = F (me) (1 : Int) from hf11 _ _ (ne_n o_me en11)).trans e_sc) ?_
    refine cx_gi (pc_q := 25) (c := 10) (q := 13) (v := F (sc) (13 : Int)) rfl rfl (by decide) (by decide) (Or.inl rfl) rfl ho16.1 ho16.2 (show F11 (sc) (13 : Int) = F (sc) (13 : Int) from hf11 _ _ (ne_n o_sc en11)) ?_
    have b22 : (-2147483648 : Int) ≤ F (sc) (13 : Int) ∧ F (sc) (13 : Int) ≤ 2147483647 := by have z := HC_i (c := 10) (q := 13) hC11 ho16.1 ho16.2 (by decide) rfl; rw [show F11 (sc) ((13 : Nat) : Int) = F (sc) (13 : Int) from (show F11 (sc) (13 : Int) = F (sc) (13 : Int) from hf11 _ _ (ne_n o_sc en11))] at z; exact z
    refine cx_sp (kd := 2) (a := n11) (st := [rv (n11)]) (as := [.int (i32 (22)), .int (i32 (F (sc) (13 : Int)))]) rfl rfl (by decide) rfl ho11.1.1 ⟨rfl, (by rw [jS_r, jS_0]; exact Nat.le_of_ble_eq_true rfl)⟩ rfl (k_LNode_init (dd := d) (R := R) (m := m11) (tg := tg11) (ln := ln11) (F := F11) (me := n11) (kd := 22) (l := F (sc) (13 : Int)) (hd := by omega) (hC := hC11) (o_me := ho11.1) (t_me := ho11.2) (h_kd := by omega) (h_l := by omega) (z_me := h011)) (fun o V_q hq => ?_)
    obtain ⟨F23, rfl, rfl, hC24, hM25, p26, zp27, -⟩ := hq
    have hM28 : Fq lf [(9, 3), (10, 0), (10, 1), (10, 2), (10, 9), (11, 8), (11, 12), (11, 13), (11, 14), (11, 15), (11, 16), (11, 17), (11, 18)] m tg F F23 := Fq_t (ln := ln) (ln1 := ln11) hM19 hX18 hM25 (by decide) (Or.inr (Or.inr ex11))
    have w29 : WK F23 lf (17 - 2 * F me (3 : Int)) := WK_qx w20 hC11 ho15.1 ho15.2 (fun b i ob hb => hM25 b i ob hb rfl) ho11.2 (show F11 (n11) (103 : Int) = 0 from h011 _) (by omega)
    have c30 : NP m11 tg11 F23 := NP_nn hC c_NP hx11 en11 em11 (fun b i ob => (hM25 b i (own_m ob hx11.1) (ne_n ob en11) rfl).trans (hf11 b i (ne_n ob en11))) (fun _ => (zp27 _ (by decide) (by decide))) (fun w => absurd (ho11.2.symm.trans w) (by decide)) (fun w => absurd (ho11.2.symm.trans w) (by decide))
    refine Or.inl ⟨rfl, ?_⟩
    refine jx_ld (pc_q := 29) (l_q := jSto1 L0 2 (rv (n11))) (st_q := []) rfl (js_rvn (by decide)) ?_
    obtain ⟨L31, eL31⟩ : ∃ q : jL, q = jSto1 L0 2 (rv (n11)) := ⟨_, rfl⟩
    rw [← eL31]
    have g32 : jGet L31 0 = some (rv (me)) := eL31 ▸ jg_nr (by decide) g1
    have g33 : jGet L31 1 = some (rv (lf)) := eL31 ▸ jg_nr (by decide) g2
    have g34 : jGet L31 2 = some (rv (n11)) := eL31 ▸ jg_eq
    clear eL31
    refine jx_ld (pc_q := 30) (l_q := L31) (st_q := [rv (n11)]) rfl (jl_rvn g34) ?_
    refine jx_ld (pc_q := 31) (l_q := L31) (st_q := [rv (me), rv (n11)]) rfl (jl_rvn g32) ?_
    refine cx_gr (pc_q := 34) (c := 8) (q := 1) (v := sc) rfl rfl (by decide) (by decide) rfl rfl ho14.1 ho14.2 (((show F23 (me) (1 : Int) = F11 (me) (1 : Int) from hM25 _ _ ho14.1 (fun w => by have q1 := ho14.2; rw [w, ho11.2] at q1; exact absurd q1 (by decide)) (by rw [ho14.2]; rfl)).trans (show F11 (me) (1 : Int) = F (me) (1 : Int) from hf11 _ _ (ne_n o_me en11))).trans e_sc) ?_
    refine cx_gi (pc_q := 37) (c := 10) (q := 15) (v := F (sc) (15 : Int)) rfl rfl (by decide) (by decide) (Or.inl rfl) rfl ho16.1 ho16.2 ((show F23 (sc) (15 : Int) = F11 (sc) (15 : Int) from hM25 _ _ ho16.1 (fun w => by have q1 := ho16.2; rw [w, ho11.2] at q1; exact absurd q1 (by decide)) (by rw [ho16.2]; rfl)).trans (show F11 (sc) (15 : Int) = F (sc) (15 : Int) from hf11 _ _ (ne_n o_sc en11))) ?_
    have b35 : (-2147483648 : Int) ≤ F (sc) (15 : Int) ∧ F (sc) (15 : Int) ≤ 2147483647 := by have z := HC_i (c := 10) (q := 15) hC24 ho16.1 ho16.2 (by decide) rfl; rw [show F23 (sc) ((15 : Nat) : Int) = F (sc) (15 : Int) from ((show F23 (sc) (15 : Int) = F11 (sc) (15 : Int) from hM25 _ _ ho16.1 (fun w => by have q1 := ho16.2; rw [w, ho11.2] at q1; exact absurd q1 (by decide)) (by rw [ho16.2]; rfl)).trans (show F11 (sc) (15 : Int) = F (sc) (15 : Int) from hf11 _ _ (ne_n o_sc en11)))] at z; exact z
    refine cx_pi (pc_q := 40) (c := 7) (q := 2) (qi := (2 : Int)) (z := F (sc) (15 : Int)) rfl rfl (by decide) (by decide) rfl rfl rfl (by decide) rfl ho11.1 ho11.2 rfl ?_
    obtain ⟨F36, eF36⟩ : ∃ q, q = uF F23 (n11) (2 : Int) (F (sc) (15 : Int)) := ⟨_, rfl⟩
    rw [← eF36]
    have hC37 : HC 0 m11 tg11 ln11 F36 := by rw [eF36]; exact HC_fi (c := 7) (q := 2) hC24 ho11.2 (by decide) rfl (by omega) (by omega) ⟨fun w => absurd w (by decide), fun w => absurd w (by decide)⟩
    have hM38 : Fq lf [(9, 3), (10, 0), (10, 1), (10, 2), (10, 9), (11, 8), (11, 12), (11, 13), (11, 14), (11, 15), (11, 16), (11, 17), (11, 18)] m tg F F36 := by rw [eF36]; exact Fq_x hM28 (Or.inr ex11)
    have w39 : WK F36 lf (17 - 2 * F me (3 : Int)) := by rw [eF36]; exact WK_un w29 hC24 ho15.1 ho15.2 ho11.2 (show F23 (n11) (103 : Int) = 0 from zp27 _ (by decide) (by decide)) (by omega)
    have c40 : NP m11 tg11 F36 := by rw [eF36]; exact NP_un hC24 c30 ho11.1 ho11.2 (show F23 (n11) (103 : Int) = 0 from zp27 _ (by decide) (by decide)) (by decide) (Or.inl (by decide))
    refine jx_ld (pc_q := 41) (l_q := L31) (st_q := [rv (n11)]) rfl (jl_rvn g34) ?_
    refine jx_ld (pc_q := 42) (l_q := L31) (st_q := [rv (lf), rv (n11)]) rfl (jl_rvn g33) ?_
    have q41 := w39.1
    have q42 := w39.2.1
    have q43 := w39.2.2.1
    rw [← cV_gh (F := F36) (a := lf) (j := 100) (z := 17 - 2 * F me (3 : Int)) (Or.inr ⟨by decide, by rw [ho15.2]; decide⟩)]
    obtain ⟨F44, eF44⟩ : ∃ q, q = uF F36 (lf) (100 : Int) (17 - 2 * F me (3 : Int)) := ⟨_, rfl⟩
    rw [← eF44]
    have hC45 : HC 0 m11 tg11 ln11 F44 := by rw [eF44]; exact HC_gh hC37 (by rw [ho15.2]; decide) (by decide)
    have hM46 : Fq lf [(9, 3), (10, 0), (10, 1), (10, 2), (10, 9), (11, 8), (11, 12), (11, 13), (11, 14), (11, 15), (11, 16), (11, 17), (11, 18)] m tg F F44 := by rw [eF44]; exact Fq_x hM38 (Or.inl rfl)
    rw [← cV_gh (F := F44) (a := lf) (j := 103) (z := 1) (Or.inr ⟨by decide, by rw [ho15.2]; decide⟩)]
    obtain ⟨F47, eF47⟩ : ∃ q, q = uF F44 (lf) (103 : Int) (1) := ⟨_, rfl⟩
    rw [← eF47]
    have hC48 : HC 0 m11 tg11 ln11 F47 := by rw [eF47]; exact HC_gh hC45 (by rw [ho15.2]; decide) (by decide)
    have hM49 : Fq lf [(9, 3), (10, 0), (10, 1), (10, 2), (10, 9), (11, 8), (11, 12), (11, 13), (11, 14), (11, 15), (11, 16), (11, 17), (11, 18)] m tg F F47 := by rw [eF47]; exact Fq_x hM46 (Or.inl rfl)
    have c50 : NP m11 tg11 F47 := by rw [eF47, eF44]; exact NP_seal hC37 c40 ho15.1 ho15.2 w39 (by omega)
    refine cx_po (pc_q := 45) (c := 7) (q := 4) (qi := (4 : Int)) (z := lf) rfl rfl (by decide) (by decide) rfl rfl rfl (by decide) rfl ho11.1 ho11.2 rfl ?_
    obtain ⟨F51, eF51⟩ : ∃ q, q = uF F47 (n11) (4 : Int) (lf) := ⟨_, rfl⟩
    rw [← eF51]
    have hC52 : HC 0 m11 tg11 ln11 F51 := by rw [eF51]; exact HC_fr (c := 7) (q := 4) (by decide) hC48 ho11.2 (by decide) rfl (Or.inr ⟨ho15.1, ho15.2⟩) ⟨fun w => absurd w (by decide), fun w => absurd w (by decide)⟩
    have hM53 : Fq lf [(9, 3), (10, 0), (10, 1), (10, 2), (10, 9), (11, 8), (11, 12), (11, 13), (11, 14), (11, 15), (11, 16), (11, 17), (11, 18)] m tg F F51 := by rw [eF51]; exact Fq_x hM49 (Or.inr ex11)
    have c54 : NP m11 tg11 F51 := by rw [eF51]; exact NP_un hC48 c50 ho11.1 ho11.2 ((show F47 (n11) (103 : Int) = F44 (n11) (103 : Int) from by rw [eF47]; exact uF_a (by omega)).trans ((show F44 (n11) (103 : Int) = F36 (n11) (103 : Int) from by rw [eF44]; exact uF_j (by decide)).trans ((show F36 (n11) (103 : Int) = F23 (n11) (103 : Int) from by rw [eF36]; exact uF_j (by decide)).trans (show F23 (n11) (103 : Int) = 0 from zp27 _ (by decide) (by decide))))) (by decide) (Or.inl (by decide))
    refine jx_ld (pc_q := 46) (l_q := L31) (st_q := [rv (me)]) rfl (jl_rvn g32) ?_
    refine cx_gr (pc_q := 49) (c := 8) (q := 1) (v := sc) rfl rfl (by decide) (by decide) rfl rfl ho14.1 ho14.2 (((show F51 (me) (1 : Int) = F47 (me) (1 : Int) from by rw [eF51]; exact uF_j (by decide)).trans ((show F47 (me) (1 : Int) = F44 (me) (1 : Int) from by rw [eF47]; exact uF_j (by decide)).trans ((show F44 (me) (1 : Int) = F36 (me) (1 : Int) from by rw [eF44]; exact uF_j (by decide)).trans ((show F36 (me) (1 : Int) = F23 (me) (1 : Int) from by rw [eF36]; exact uF_j (by decide)).trans ((show F23 (me) (1 : Int) = F11 (me) (1 : Int) from hM25 _ _ ho14.1 (fun w => by have q1 := ho14.2; rw [w, ho11.2] at q1; exact absurd q1 (by decide)) (by rw [ho14.2]; rfl)).trans (show F11 (me) (1 : Int) = F (me) (1 : Int) from hf11 _ _ (ne_n o_me en11))))))).trans e_sc) ?_
    have q55 : F51 (sc) (8 : Int) = F (sc) (8 : Int) := ((show F51 (sc) (8 : Int) = F47 (sc) (8 : Int) from by rw [eF51]; exact uF_j (by decide)).trans ((show F47 (sc) (8 : Int) = F44 (sc) (8 : Int) from by rw [eF47]; exact uF_j (by decide)).trans ((show F44 (sc) (8 : Int) = F36 (sc) (8 : Int) from by rw [eF44]; exact uF_j (by decide)).trans ((show F36 (sc) (8 : Int) = F23 (sc) (8 : Int) from by rw [eF36]; exact uF_j (by decide)).trans ((show F23 (sc) (8 : Int) = F11 (sc) (8 : Int) from hM25 _ _ ho16.1 (fun w => by have q1 := ho16.2; rw [w, ho11.2] at q1; exact absurd q1 (by decide)) (by rw [ho16.2]; rfl)).trans (show F11 (sc) (8 : Int) = F (sc) (8 : Int) from hf11 _ _ (ne_n o_sc en11)))))))
    have q56 : F51 (sc) (15 : Int) = F (sc) (15 : Int) := ((show F51 (sc) (15 : Int) = F47 (sc) (15 : Int) from by rw [eF51]; exact uF_j (by decide)).trans ((show F47 (sc) (15 : Int) = F44 (sc) (15 : Int) from by rw [eF47]; exact uF_j (by decide)).trans ((show F44 (sc) (15 : Int) = F36 (sc) (15 : Int) from by rw [eF44]; exact uF_j (by decide)).trans ((show F36 (sc) (15 : Int) = F23 (sc) (15 : Int) from by rw [eF36]; exact uF_j (by decide)).trans ((show F23 (sc) (15 : Int) = F11 (sc) (15 : Int) from hM25 _ _ ho16.1 (fun w => by have q1 := ho16.2; rw [w, ho11.2] at q1; exact absurd q1 (by decide)) (by rw [ho16.2]; rfl)).trans (show F11 (sc) (15 : Int) = F (sc) (15 : Int) from hf11 _ _ (ne_n o_sc en11)))))))
    have q57 : tz (F51 (sc) (15 : Int)) = tz (F (sc) (15 : Int)) := by rw [q56]
    have q58 := tz_b (F (sc) (15 : Int))
    have q59 : F51 (sc) (7 : Int) = F (sc) (7 : Int) := ((show F51 (sc) (7 : Int) = F47 (sc) (7 : Int) from by rw [eF51]; exact uF_j (by decide)).trans ((show F47 (sc) (7 : Int) = F44 (sc) (7 : Int) from by rw [eF47]; exact uF_j (by decide)).trans ((show F44 (sc) (7 : Int) = F36 (sc) (7 : Int) from by rw [eF44]; exact uF_j (by decide)).trans ((show F36 (sc) (7 : Int) = F23 (sc) (7 : Int) from by rw [eF36]; exact uF_j (by decide)).trans ((show F23 (sc) (7 : Int) = F11 (sc) (7 : Int) from hM25 _ _ ho16.1 (fun w => by have q1 := ho16.2; rw [w, ho11.2] at q1; exact absurd q1 (by decide)) (by rw [ho16.2]; rfl)).trans (show F11 (sc) (7 : Int) = F (sc) (7 : Int) from hf11 _ _ (ne_n o_sc en11)))))))
    have q60 : F51 (sc) (14 : Int) = F (sc) (14 : Int) := ((show F51 (sc) (14 : Int) = F47 (sc) (14 : Int) from by rw [eF51]; exact uF_j (by decide)).trans ((show F47 (sc) (14 : Int) = F44 (sc) (14 : Int) from by rw [eF47]; exact uF_j (by decide)).trans ((show F44 (sc) (14 : Int) = F36 (sc) (14 : Int) from by rw [eF44]; exact uF_j (by decide)).trans ((show F36 (sc) (14 : Int) = F23 (sc) (14 : Int) from by rw [eF36]; exact uF_j (by decide)).trans ((show F23 (sc) (14 : Int) = F11 (sc) (14 : Int) from hM25 _ _ ho16.1 (fun w => by have q1 := ho16.2; rw [w, ho11.2] at q1; exact absurd q1 (by decide)) (by rw [ho16.2]; rfl)).trans (show F11 (sc) (14 : Int) = F (sc) (14 : Int) from hf11 _ _ (ne_n o_sc en11)))))))
    have q61 : lz (F51 (sc) (14 : Int)) = lz (F (sc) (14 : Int)) := by rw [q60]
    have q62 := lz_b (F (sc) (14 : Int))
    refine cx_vi (c := 10) (a := sc) (st := []) (as := []) rfl rfl rfl ho16.1 ho16.2 (by decide) rfl ⟨rfl, rfl, (Nat.le_of_ble_eq_true rfl)⟩ rfl (k_LScanner_next (dd := d) (R := R) (m := m11) (tg := tg11) (ln := ln11) (F := F51) (me := sc) (hd := by omega) (hC := hC52) (o_me := ho16.1) (t_me := ho16.2) (p_0 := by omega) (p_1 := by omega)) (fun o V_q hq => ?_)
    obtain ⟨F63, rfl, rfl, hC64, hM65, p66, p67, p68, -⟩ := hq
    have hM69 : Fq lf [(9, 3), (10, 0), (10, 1), (10, 2), (10, 9), (11, 8), (11, 12), (11, 13), (11, 14), (11, 15), (11, 16), (11, 17), (11, 18)] m tg F F63 := Fq_t (ln := ln) (ln1 := ln11) hM53 hX18 hM65 (by decide) (Or.inr (Or.inl rfl))
    have c70 : NP m11 tg11 F63 := NP_q hC52 c54 hM65 rfl rfl
    refine Or.inl ⟨rfl, ?_⟩
    refine jx_ld (pc_q := 53) (l_q := L31) (st_q := [rv (n11)]) rfl (jl_rvn g34) ?_
    refine jx_ld (pc_q := 54) (l_q := L31) (st_q := [rv (me), rv (n11)]) rfl (jl_rvn g32) ?_
    have b71 : (0 : Int) ≤ F (me) (3 : Int) ∧ F (me) (3 : Int) ≤ 8 := by have z := HC_i (c := 8) (q := 3) hC64 ho14.1 ho14.2 (by decide) rfl; rw [show F63 (me) ((3 : Nat) : Int) = F (me) (3 : Int) from ((show F63 (me) (3 : Int) = F51 (me) (3 : Int) from hM65 _ _ ho14.1 (own_z ho14.1) (by rw [ho14.2]; rfl)).trans ((show F51 (me) (3 : Int) = F47 (me) (3 : Int) from by rw [eF51]; exact uF_j (by decide)).trans ((show F47 (me) (3 : Int) = F44 (me) (3 : Int) from by rw [eF47]; exact uF_j (by decide)).trans ((show F44 (me) (3 : Int) = F36 (me) (3 : Int) from by rw [eF44]; exact uF_j (by decide)).trans ((show F36 (me) (3 : Int) = F23 (me) (3 : Int) from by rw [eF36]; exact uF_j (by decide)).trans ((show F23 (me) (3 : Int) = F11 (me) (3 : Int) from hM25 _ _ ho14.1 (fun w => by have q1 := ho14.2; rw [w, ho11.2] at q1; exact absurd q1 (by decide)) (by rw [ho14.2]; rfl)).trans (show F11 (me) (3 : Int) = F (me) (3 : Int) from hf11 _ _ (ne_n o_me en11))))))))] at z; exact z
    have q72 := tz_b (F63 (sc) (15 : Int))
    have q73 : F63 (sc) (7 : Int) = F (sc) (7 : Int) := ((show F63 (sc) (7 : Int) = F51 (sc) (7 : Int) from hM65 _ _ ho16.1 (own_z ho16.1) (by rw [ho16.2]; rfl)).trans ((show F51 (sc) (7 : Int) = F47 (sc) (7 : Int) from by rw [eF51]; exact uF_j (by decide)).trans ((show F47 (sc) (7 : Int) = F44 (sc) (7 : Int) from by rw [eF47]; exact uF_j (by decide)).trans ((show F44 (sc) (7 : Int) = F36 (sc) (7 : Int) from by rw [eF44]; exact uF_j (by decide)).trans ((show F36 (sc) (7 : Int) = F23 (sc) (7 : Int) from by rw [eF36]; exact uF_j (by decide)).trans ((show F23 (sc) (7 : Int) = F11 (sc) (7 : Int) from hM25 _ _ ho16.1 (fun w => by have q1 := ho16.2; rw [w, ho11.2] at q1; exact absurd q1 (by decide)) (by rw [ho16.2]; rfl)).trans (show F11 (sc) (7 : Int) = F (sc) (7 : Int) from hf11 _ _ (ne_n o_sc en11))))))))
    have q74 := lz_b (F63 (sc) (14 : Int))
    have q75 : F63 (me) (3 : Int) = F (me) (3 : Int) := ((show F63 (me) (3 : Int) = F51 (me) (3 : Int) from hM65 _ _ ho14.1 (own_z ho14.1) (by rw [ho14.2]; rfl)).trans ((show F51 (me) (3 : Int) = F47 (me) (3 : Int) from by rw [eF51]; exact uF_j (by decide)).trans ((show F47 (me) (3 : Int) = F44 (me) (3 : Int) from by rw [eF47]; exact uF_j (by decide)).trans ((show F44 (me) (3 : Int) = F36 (me) (3 : Int) from by rw [eF44]; exact uF_j (by decide)).trans ((show F36 (me) (3 : Int) = F23 (me) (3 : Int) from by rw [eF36]; exact uF_j (by decide)).trans ((show F23 (me) (3 : Int) = F11 (me) (3 : Int) from hM25 _ _ ho14.1 (fun w => by have q1 := ho14.2; rw [w, ho11.2] at q1; exact absurd q1 (by decide)) (by rw [ho14.2]; rfl)).trans (show F11 (me) (3 : Int) = F (me) (3 : Int) from hf11 _ _ (ne_n o_me en11))))))))
    have q76 : F63 (pg) (9 : Int) = F (pg) (9 : Int) := ((show F63 (pg) (9 : Int) = F51 (pg) (9 : Int) from hM65 _ _ ho17.1 (own_z ho17.1) (by rw [ho17.2]; rfl)).trans ((show F51 (pg) (9 : Int) = F47 (pg) (9 : Int) from by rw [eF51]; exact uF_j (by decide)).trans ((show F47 (pg) (9 : Int) = F44 (pg) (9 : Int) from by rw [eF47]; exact uF_j (by decide)).trans ((show F44 (pg) (9 : Int) = F36 (pg) (9 : Int) from by rw [eF44]; exact uF_j (by decide)).trans ((show F36 (pg) (9 : Int) = F23 (pg) (9 : Int) from by rw [eF36]; exact uF_j (by decide)).trans ((show F23 (pg) (9 : Int) = F11 (pg) (9 : Int) from hM25 _ _ ho17.1 (fun w => by have q1 := ho17.2; rw [w, ho11.2] at q1; exact absurd q1 (by decide)) (by rw [ho17.2]; rfl)).trans (show F11 (pg) (9 : Int) = F (pg) (9 : Int) from hf11 _ _ (ne_n o_pg en11))))))))
    refine cx_vi (c := 8) (a := me) (st := [rv (n11)]) (as := []) rfl rfl rfl ho14.1 ho14.2 (by decide) rfl ⟨rfl, rfl, (by rw [jS_r, jS_0]; exact Nat.le_of_ble_eq_true rfl)⟩ rfl (k_LParser_operand (dd := d) (R := R) (m := m11) (tg := tg11) (ln := ln11) (F := F63) (kk := kk) (hE := hE) (me := me) (hd := by omega) (hC := hC64) (o_me := ho14.1) (t_me := ho14.2) (sc := sc) (pg := pg) (o_sc := ho16.1) (t_sc := ho16.2) (e_sc := (((show F63 (me) (1 : Int) = F51 (me) (1 : Int) from hM65 _ _ ho14.1 (own_z ho14.1) (by rw [ho14.2]; rfl)).trans ((show F51 (me) (1 : Int) = F47 (me) (1 : Int) from by rw [eF51]; exact uF_j (by decide)).trans ((show F47 (me) (1 : Int) = F44 (me) (1 : Int) from by rw [eF47]; exact uF_j (by decide)).trans ((show F44 (me) (1 : Int) = F36 (me) (1 : Int) from by rw [eF44]; exact uF_j (by decide)).trans ((show F36 (me) (1 : Int) = F23 (me) (1 : Int) from by rw [eF36]; exact uF_j (by decide)).trans ((show F23 (me) (1 : Int) = F11 (me) (1 : Int) from hM25 _ _ ho14.1 (fun w => by have q1 := ho14.2; rw [w, ho11.2] at q1; exact absurd q1 (by decide)) (by rw [ho14.2]; rfl)).trans (show F11 (me) (1 : Int) = F (me) (1 : Int) from hf11 _ _ (ne_n o_me en11)))))))).trans e_sc)) (o_pg := ho17.1) (t_pg := ho17.2) (e_pg := (((show F63 (me) (0 : Int) = F51 (me) (0 : Int) from hM65 _ _ ho14.1 (own_z ho14.1) (by rw [ho14.2]; rfl)).trans ((show F51 (me) (0 : Int) = F47 (me) (0 : Int) from by rw [eF51]; exact uF_j (by decide)).trans ((show F47 (me) (0 : Int) = F44 (me) (0 : Int) from by rw [eF47]; exact uF_j (by decide)).trans ((show F44 (me) (0 : Int) = F36 (me) (0 : Int) from by rw [eF44]; exact uF_j (by decide)).trans ((show F36 (me) (0 : Int) = F23 (me) (0 : Int) from by rw [eF36]; exact uF_j (by decide)).trans ((show F23 (me) (0 : Int) = F11 (me) (0 : Int) from hM25 _ _ ho14.1 (fun w => by have q1 := ho14.2; rw [w, ho11.2] at q1; exact absurd q1 (by decide)) (by rw [ho14.2]; rfl)).trans (show F11 (me) (0 : Int) = F (me) (0 : Int) from hf11 _ _ (ne_n o_me en11)))))))).trans e_pg)) (p_0 := by omega) (p_1 := by omega) (p_2 := by omega) (p_3 := by omega) (c_NP := c70)) (fun o V_q hq => ?_)
    obtain ⟨m77, tg77, ln77, F78, r79, rfl, rfl, hx80, hC81, hM82, b83, p84, p85, p86, p87, p88, p89, p90, p91, p92, p93, p94, c95, c96, -⟩ | ⟨m97, tg97, ln97, F97, x97, rfl, rfl, hx97, hC97, hM97, ho97, ht97, p98, p99, p100, p101, c102, c103, -⟩ := hq
    rotate_left
    ·
      have c104 : NM m m97 tg97 := NM_t c21 hx97 c103
      have lm105 := hx97.1
      refine Or.inr (Or.inr (Or.inr ⟨_, _, rfl, cx_exc (c := 15) ho97 ht97 (by decide), rfl, ?_⟩))
      have q106 : F63 (sc) (7 : Int) = F (sc) (7 : Int) := ((show F63 (sc) (7 : Int) = F51 (sc) (7 : Int) from hM65 _ _ ho16.1 (own_z ho16.1) (by rw [ho16.2]; rfl)).trans ((show F51 (sc) (7 : Int) = F47 (sc) (7 : Int) from by rw [eF51]; exact uF_j (by decide)).trans ((show F47 (sc) (7 : Int) = F44 (sc) (7 : Int) from by rw [eF47]; exact uF_j (by decide)).trans ((show F44 (sc) (7 : Int) = F36 (sc) (7 : Int) from by rw [eF44]; exact uF_j (by decide)).trans ((show F36 (sc) (7 : Int) = F23 (sc) (7 : Int) from by rw [eF36]; exact uF_j (by decide)).trans ((show F23 (sc) (7 : Int) = F11 (sc) (7 : Int) from hM25 _ _ ho16.1 (fun w => by have q1 := ho16.2; rw [w, ho11.2] at q1; exact absurd q1 (by decide)) (by rw [ho16.2]; rfl)).trans (show F11 (sc) (7 : Int) = F (sc) (7 : Int) from hf11 _ _ (ne_n o_sc en11))))))))
      exact Or.inr ⟨m97, tg97, ln97, F97, x97, rfl, rfl, Ex_t hX18 hx97, hC97, Fq_t (ln := ln) (ln1 := ln11) hM69 hX18 hM97 (by decide) (Or.inr (Or.inl rfl)), (And.intro ho97 ht97).1, (And.intro ho97 ht97).2, by omega, by omega, by omega, by omega, c102, c104, trivial⟩
    have hM107 : Fq lf [(9, 3), (10, 0), (10, 1), (10, 2), (10, 9), (11, 8), (11, 12), (11, 13), (11, 14), (11, 15), (11, 16), (11, 17), (11, 18)] m tg F F78 := Fq_t (ln := ln) (ln1 := ln11) hM69 hX18 hM82 (by decide) (Or.inr (Or.inl rfl))
    have lm108 := hx80.1
    have lt109 : lf < 64 + (m11 : Int) := ho15.1.2.1
    have lt110 : n11 < 64 + (m11 : Int) := ho11.1.2.1
    have ho111 : own m77 (me) ∧ tg77 (me) = 9 := Ex_o hx80 ⟨ho14.1, ho14.2⟩
    have ho112 : own m77 (lf) ∧ tg77 (lf) = 8 := Ex_o hx80 ⟨ho15.1, ho15.2⟩
    have ho113 : own m77 (n11) ∧ tg77 (n11) = 8 := Ex_o hx80 ⟨ho11.1, ho11.2⟩
    have ho114 : own m77 (sc) ∧ tg77 (sc) = 11 := Ex_o hx80 ⟨ho16.1, ho16.2⟩
    have ho115 : own m77 (pg) ∧ tg77 (pg) = 10 := Ex_o hx80 ⟨ho17.1, ho17.2⟩
    have hX116 := Ex_t hX18 hx80
    have q117 := p92.1
    have q118 := p92.2.1
    have q119 := p92.2.2.1
    have c120 : NM m m77 tg77 := NM_t c21 hx80 c96
    refine Or.inr (Or.inl ⟨_, rfl, ?_⟩)
    have q121 := p92.1
    have q122 := p92.2.1
    have q123 := p92.2.2.1
    rw [← cV_gh (F := F78) (a := r79) (j := 100) (z := 17 - 2 * F me (3 : Int)) (Or.inr ⟨by decide, by rw [b83.2]; decide⟩)]
    obtain ⟨F124, eF124⟩ : ∃ q, q = uF F78 (r79) (100 : Int) (17 - 2 * F me (3 : Int)) := ⟨_, rfl⟩
    rw [← eF124]
    have hC125 : HC 0 m77 tg77 ln77 F124 := by rw [eF124]; exact HC_gh hC81 (by rw [b83.2]; decide) (by decide)
    have hM126 : Fq lf [(9, 3), (10, 0), (10, 1), (10, 2), (10, 9), (11, 8), (11, 12), (11, 13), (11, 14), (11, 15), (11, 16), (11, 17), (11, 18)] m tg F F124 := by rw [eF124]; exact Fq_x hM107 (Or.inr (by have := hX116.1; omega))
    rw [← cV_gh (F := F124) (a := r79) (j := 103) (z := 1) (Or.inr ⟨by decide, by rw [b83.2]; decide⟩)]
    obtain ⟨F127, eF127⟩ : ∃ q, q = uF F124 (r79) (103 : Int) (1) := ⟨_, rfl⟩
    rw [← eF127]
    have hC128 : HC 0 m77 tg77 ln77 F127 := by rw [eF127]; exact HC_gh hC125 (by rw [b83.2]; decide) (by decide)
    have hM129 : Fq lf [(9, 3), (10, 0), (10, 1), (10, 2), (10, 9), (11, 8), (11, 12), (11, 13), (11, 14), (11, 15), (11, 16), (11, 17), (11, 18)] m tg F F127 := by rw [eF127]; exact Fq_x hM126 (Or.inr (by have := hX116.1; omega))
    have c130 : NP m77 tg77 F127 := by rw [eF127, eF124]; exact NP_seal hC81 c95 b83.1 b83.2 p92 (by omega)
    refine cx_po (pc_q := 60) (c := 7) (q := 5) (qi := (5 : Int)) (z := r79) rfl rfl (by decide) (by decide) rfl rfl rfl (by decide) rfl ho113.1 ho113.2 rfl ?_
    obtain ⟨F131, eF131⟩ : ∃ q, q = uF F127 (n11) (5 : Int) (r79) := ⟨_, rfl⟩
    rw [← eF131]
    have hC132 : HC 0 m77 tg77 ln77 F131 := by rw [eF131]; exact HC_fr (c := 7) (q := 5) (by decide) hC128 ho113.2 (by decide) rfl (Or.inr ⟨b83.1, b83.2⟩) ⟨fun w => absurd w (by decide), fun w => absurd w (by decide)⟩
    have hM133 : Fq lf [(9, 3), (10, 0), (10, 1), (10, 2), (10, 9), (11, 8), (11, 12), (11, 13), (11, 14), (11, 15), (11, 16), (11, 17), (11, 18)] m tg F F131 := by rw [eF131]; exact Fq_x hM129 (Or.inr ex11)
    have c134 : NP m77 tg77 F131 := by rw [eF131]; exact NP_un hC128 c130 ho113.1 ho113.2 ((show F127 (n11) (103 : Int) = F124 (n11) (103 : Int) from by rw [eF127]; exact uF_a (by omega)).trans ((show F124 (n11) (103 : Int) = F78 (n11) (103 : Int) from by rw [eF124]; exact uF_j (by decide)).trans ((show F78 (n11) (103 : Int) = F63 (n11) (103 : Int) from hM82 _ _ ho11.1 (own_z ho11.1) (by rw [ho11.2]; rfl)).trans ((show F63 (n11) (103 : Int) = F51 (n11) (103 : Int) from hM65 _ _ ho11.1 (own_z ho11.1) (by rw [ho11.2]; rfl)).trans ((show F51 (n11) (103 : Int) = F47 (n11) (103 : Int) from by rw [eF51]; exact uF_j (by decide)).trans ((show F47 (n11) (103 : Int) = F44 (n11) (103 : Int) from by rw [eF47]; exact uF_a (by omega)).trans ((show F44 (n11) (103 : Int) = F36 (n11) (103 : Int) from by rw [eF44]; exact uF_j (by decide)).trans ((show F36 (n11) (103 : Int) = F23 (n11) (103 : Int) from by rw [eF36]; exact uF_j (by decide)).trans (show F23 (n11) (103 : Int) = 0 from zp27 _ (by decide) (by decide)))))))))) (by decide) (Or.inl (by decide))
    refine jx_ld (pc_q := 61) (l_q := L31) (st_q := [rv (n11)]) rfl (jl_rvn g34) ?_
    refine jx_rt (v := some (rv (n11))) rfl rfl rfl rfl rfl jr_are ?_
    have q135 : F131 (sc) (7 : Int) = F (sc) (7 : Int) := ((show F131 (sc) (7 : Int) = F127 (sc) (7 : Int) from by rw [eF131]; exact uF_j (by decide)).trans ((show F127 (sc) (7 : Int) = F124 (sc) (7 : Int) from by rw [eF127]; exact uF_j (by decide)).trans ((show F124 (sc) (7 : Int) = F78 (sc) (7 : Int) from by rw [eF124]; exact uF_j (by decide)).trans ((show F78 (sc) (7 : Int) = F63 (sc) (7 : Int) from hM82 _ _ ho16.1 (own_z ho16.1) (by rw [ho16.2]; rfl)).trans ((show F63 (sc) (7 : Int) = F51 (sc) (7 : Int) from hM65 _ _ ho16.1 (own_z ho16.1) (by rw [ho16.2]; rfl)).trans ((show F51 (sc) (7 : Int) = F47 (sc) (7 : Int) from by rw [eF51]; exact uF_j (by decide)).trans ((show F47 (sc) (7 : Int) = F44 (sc) (7 : Int) from by rw [eF47]; exact uF_j (by decide)).trans ((show F44 (sc) (7 : Int) = F36 (sc) (7 : Int) from by rw [eF44]; exact uF_j (by decide)).trans ((show F36 (sc) (7 : Int) = F23 (sc) (7 : Int) from by rw [eF36]; exact uF_j (by decide)).trans ((show F23 (sc) (7 : Int) = F11 (sc) (7 : Int) from hM25 _ _ ho16.1 (fun w => by have q1 := ho16.2; rw [w, ho11.2] at q1; exact absurd q1 (by decide)) (by rw [ho16.2]; rfl)).trans (show F11 (sc) (7 : Int) = F (sc) (7 : Int) from hf11 _ _ (ne_n o_sc en11))))))))))))
    have q136 : F131 (sc) (8 : Int) = F78 (sc) (8 : Int) := ((show F131 (sc) (8 : Int) = F127 (sc) (8 : Int) from by rw [eF131]; exact uF_j (by decide)).trans ((show F127 (sc) (8 : Int) = F124 (sc) (8 : Int) from by rw [eF127]; exact uF_j (by decide)).trans (show F124 (sc) (8 : Int) = F78 (sc) (8 : Int) from by rw [eF124]; exact uF_j (by decide))))
    have q137 : F131 (pg) (9 : Int) = F78 (pg) (9 : Int) := ((show F131 (pg) (9 : Int) = F127 (pg) (9 : Int) from by rw [eF131]; exact uF_j (by decide)).trans ((show F127 (pg) (9 : Int) = F124 (pg) (9 : Int) from by rw [eF127]; exact uF_j (by decide)).trans (show F124 (pg) (9 : Int) = F78 (pg) (9 : Int) from by rw [eF124]; exact uF_j (by decide))))
    have q138 : F131 (me) (3 : Int) = F78 (me) (3 : Int) := ((show F131 (me) (3 : Int) = F127 (me) (3 : Int) from by rw [eF131]; exact uF_j (by decide)).trans ((show F127 (me) (3 : Int) = F124 (me) (3 : Int) from by rw [eF127]; exact uF_j (by decide)).trans (show F124 (me) (3 : Int) = F78 (me) (3 : Int) from by rw [eF124]; exact uF_j (by decide))))
    have q139 : F131 (sc) (8 : Int) = F78 (sc) (8 : Int) := ((show F131 (sc) (8 : Int) = F127 (sc) (8 : Int) from by rw [eF131]; exact uF_j (by decide)).trans ((show F127 (sc) (8 : Int) = F124 (sc) (8 : Int) from by rw [eF127]; exact uF_j (by decide)).trans (show F124 (sc) (8 : Int) = F78 (sc) (8 : Int) from by rw [eF124]; exact uF_j (by decide))))
    have q140 : F131 (sc) (15 : Int) = F78 (sc) (15 : Int) := ((show F131 (sc) (15 : Int) = F127 (sc) (15 : Int) from by rw [eF131]; exact uF_j (by decide)).trans ((show F127 (sc) (15 : Int) = F124 (sc) (15 : Int) from by rw [eF127]; exact uF_j (by decide)).trans (show F124 (sc) (15 : Int) = F78 (sc) (15 : Int) from by rw [eF124]; exact uF_j (by decide))))
    have q141 : tz (F131 (sc) (15 : Int)) = tz (F78 (sc) (15 : Int)) := by rw [q140]
    have q142 := tz_b (F78 (sc) (15 : Int))
    have q143 : F131 (sc) (14 : Int) = F78 (sc) (14 : Int) := ((show F131 (sc) (14 : Int) = F127 (sc) (14 : Int) from by rw [eF131]; exact uF_j (by decide)).trans ((show F127 (sc) (14 : Int) = F124 (sc) (14 : Int) from by rw [eF127]; exact uF_j (by decide)).trans (show F124 (sc) (14 : Int) = F78 (sc) (14 : Int) from by rw [eF124]; exact uF_j (by decide))))
    have q144 : lz (F131 (sc) (14 : Int)) = lz (F78 (sc) (14 : Int)) := by rw [q143]
    have q145 := lz_b (F78 (sc) (14 : Int))
    have q146 : F131 (pg) (9 : Int) = F78 (pg) (9 : Int) := ((show F131 (pg) (9 : Int) = F127 (pg) (9 : Int) from by rw [eF131]; exact uF_j (by decide)).trans ((show F127 (pg) (9 : Int) = F124 (pg) (9 : Int) from by rw [eF127]; exact uF_j (by decide)).trans (show F124 (pg) (9 : Int) = F78 (pg) (9 : Int) from by rw [eF124]; exact uF_j (by decide))))
    have q147 : F131 (n11) (0 : Int) = F23 (n11) (0 : Int) := ((show F131 (n11) (0 : Int) = F127 (n11) (0 : Int) from by rw [eF131]; exact uF_j (by decide)).trans ((show F127 (n11) (0 : Int) = F124 (n11) (0 : Int) from by rw [eF127]; exact uF_j (by decide)).trans ((show F124 (n11) (0 : Int) = F78 (n11) (0 : Int) from by rw [eF124]; exact uF_j (by decide)).trans ((show F78 (n11) (0 : Int) = F63 (n11) (0 : Int) from hM82 _ _ ho11.1 (own_z ho11.1) (by rw [ho11.2]; rfl)).trans ((show F63 (n11) (0 : Int) = F51 (n11) (0 : Int) from hM65 _ _ ho11.1 (own_z ho11.1) (by rw [ho11.2]; rfl)).trans ((show F51 (n11) (0 : Int) = F47 (n11) (0 : Int) from by rw [eF51]; exact uF_j (by decide)).trans ((show F47 (n11) (0 : Int) = F44 (n11) (0 : Int) from by rw [eF47]; exact uF_j (by decide)).trans ((show F44 (n11) (0 : Int) = F36 (n11) (0 : Int) from by rw [eF44]; exact uF_j (by decide)).trans (show F36 (n11) (0 : Int) = F23 (n11) (0 : Int) from by rw [eF36]; exact uF_j (by decide))))))))))
    have q148 : F131 (me) (3 : Int) = F78 (me) (3 : Int) := ((show F131 (me) (3 : Int) = F127 (me) (3 : Int) from by rw [eF131]; exact uF_j (by decide)).trans ((show F127 (me) (3 : Int) = F124 (me) (3 : Int) from by rw [eF127]; exact uF_j (by decide)).trans (show F124 (me) (3 : Int) = F78 (me) (3 : Int) from by rw [eF124]; exact uF_j (by decide))))
    exact Or.inl ⟨m77, tg77, ln77, F131, (n11), rfl, rfl, hX116, hC132, hM133, ⟨ho113.1, ho113.2⟩, by omega, by omega, by omega, by omega, by omega, by omega, by omega, by omega, (WK_i (K := 18 - 2 * F me (3 : Int)) ((show F131 (n11) (103 : Int) = F127 (n11) (103 : Int) from by rw [eF131]; exact uF_j (by decide)).trans ((show F127 (n11) (103 : Int) = F124 (n11) (103 : Int) from by rw [eF127]; exact uF_a (by omega)).trans ((show F124 (n11) (103 : Int) = F78 (n11) (103 : Int) from by rw [eF124]; exact uF_j (by decide)).trans ((show F78 (n11) (103 : Int) = F63 (n11) (103 : Int) from hM82 _ _ ho11.1 (own_z ho11.1) (by rw [ho11.2]; rfl)).trans ((show F63 (n11) (103 : Int) = F51 (n11) (103 : Int) from hM65 _ _ ho11.1 (own_z ho11.1) (by rw [ho11.2]; rfl)).trans ((show F51 (n11) (103 : Int) = F47 (n11) (103 : Int) from by rw [eF51]; exact uF_j (by decide)).trans ((show F47 (n11) (103 : Int) = F44 (n11) (103 : Int) from by rw [eF47]; exact uF_a (by omega)).trans ((show F44 (n11) (103 : Int) = F36 (n11) (103 : Int) from by rw [eF44]; exact uF_j (by decide)).trans ((show F36 (n11) (103 : Int) = F23 (n11) (103 : Int) from by rw [eF36]; exact uF_j (by decide)).trans (show F23 (n11) (103 : Int) = 0 from zp27 _ (by decide) (by decide))))))))))) ((show F131 (n11) (101 : Int) = F127 (n11) (101 : Int) from by rw [eF131]; exact uF_j (by decide)).trans ((show F127 (n11) (101 : Int) = F124 (n11) (101 : Int) from by rw [eF127]; exact uF_j (by decide)).trans ((show F124 (n11) (101 : Int) = F78 (n11) (101 : Int) from by rw [eF124]; exact uF_j (by decide)).trans ((show F78 (n11) (101 : Int) = F63 (n11) (101 : Int) from hM82 _ _ ho11.1 (own_z ho11.1) (by rw [ho11.2]; rfl)).trans ((show F63 (n11) (101 : Int) = F51 (n11) (101 : Int) from hM65 _ _ ho11.1 (own_z ho11.1) (by rw [ho11.2]; rfl)).trans ((show F51 (n11) (101 : Int) = F47 (n11) (101 : Int) from by rw [eF51]; exact uF_j (by decide)).trans ((show F47 (n11) (101 : Int) = F44 (n11) (101 : Int) from by rw [eF47]; exact uF_j (by decide)).trans ((show F44 (n11) (101 : Int) = F36 (n11) (101 : Int) from by rw [eF44]; exact uF_j (by decide)).trans ((show F36 (n11) (101 : Int) = F23 (n11) (101 : Int) from by rw [eF36]; exact uF_j (by decide)).trans (show F23 (n11) (101 : Int) = 0 from zp27 _ (by decide) (by decide))))))))))) ((show F131 (n11) (8 : Int) = F127 (n11) (8 : Int) from by rw [eF131]; exact uF_j (by decide)).trans ((show F127 (n11) (8 : Int) = F124 (n11) (8 : Int) from by rw [eF127]; exact uF_j (by decide)).trans ((show F124 (n11) (8 : Int) = F78 (n11) (8 : Int) from by rw [eF124]; exact uF_j (by decide)).trans ((show F78 (n11) (8 : Int) = F63 (n11) (8 : Int) from hM82 _ _ ho11.1 (own_z ho11.1) (by rw [ho11.2]; rfl)).trans ((show F63 (n11) (8 : Int) = F51 (n11) (8 : Int) from hM65 _ _ ho11.1 (own_z ho11.1) (by rw [ho11.2]; rfl)).trans ((show F51 (n11) (8 : Int) = F47 (n11) (8 : Int) from by rw [eF51]; exact uF_j (by decide)).trans ((show F47 (n11) (8 : Int) = F44 (n11) (8 : Int) from by rw [eF47]; exact uF_j (by decide)).trans ((show F44 (n11) (8 : Int) = F36 (n11) (8 : Int) from by rw [eF44]; exact uF_j (by decide)).trans ((show F36 (n11) (8 : Int) = F23 (n11) (8 : Int) from by rw [eF36]; exact uF_j (by decide)).trans (show F23 (n11) (8 : Int) = 0 from zp27 _ (by decide) (by decide))))))))))) (Or.inr (by rw [show F131 (n11) (4 : Int) = lf from ((show F131 (n11) (4 : Int) = F127 (n11) (4 : Int) from by rw [eF131]; exact uF_j (by decide)).trans ((show F127 (n11) (4 : Int) = F124 (n11) (4 : Int) from by rw [eF127]; exact uF_j (by decide)).trans ((show F124 (n11) (4 : Int) = F78 (n11) (4 : Int) from by rw [eF124]; exact uF_j (by decide)).trans ((show F78 (n11) (4 : Int) = F63 (n11) (4 : Int) from hM82 _ _ ho11.1 (own_z ho11.1) (by rw [ho11.2]; rfl)).trans ((show F63 (n11) (4 : Int) = F51 (n11) (4 : Int) from hM65 _ _ ho11.1 (own_z ho11.1) (by rw [ho11.2]; rfl)).trans (show F51 (n11) (4 : Int) = lf from by rw [eF51]; exact uF_e))))))]; exact ⟨((show F131 (lf) (103 : Int) = F127 (lf) (103 : Int) from by rw [eF131]; exact uF_j (by decide)).trans ((show F127 (lf) (103 : Int) = F124 (lf) (103 : Int) from by rw [eF127]; exact uF_a (by omega)).trans ((show F124 (lf) (103 : Int) = F78 (lf) (103 : Int) from by rw [eF124]; exact uF_j (by decide)).trans ((show F78 (lf) (103 : Int) = F63 (lf) (103 : Int) from hM82 _ _ ho15.1 (own_z ho15.1) (by rw [ho15.2]; rfl)).trans ((show F63 (lf) (103 : Int) = F51 (lf) (103 : Int) from hM65 _ _ ho15.1 (own_z ho15.1) (by rw [ho15.2]; rfl)).trans ((show F51 (lf) (103 : Int) = F47 (lf) (103 : Int) from by rw [eF51]; exact uF_j (by decide)).trans (show F47 (lf) (103 : Int) = 1 from by rw [eF47]; exact uF_e))))))), (by rw [show F131 (lf) (100 : Int) = 17 - 2 * F me (3 : Int) from ((show F131 (lf) (100 : Int) = F127 (lf) (100 : Int) from by rw [eF131]; exact uF_j (by decide)).trans ((show F127 (lf) (100 : Int) = F124 (lf) (100 : Int) from by rw [eF127]; exact uF_j (by decide)).trans ((show F124 (lf) (100 : Int) = F78 (lf) (100 : Int) from by rw [eF124]; exact uF_a (by omega)).trans ((show F78 (lf) (100 : Int) = F63 (lf) (100 : Int) from hM82 _ _ ho15.1 (own_z ho15.1) (by rw [ho15.2]; rfl)).trans ((show F63 (lf) (100 : Int) = F51 (lf) (100 : Int) from hM65 _ _ ho15.1 (own_z ho15.1) (by rw [ho15.2]; rfl)).trans ((show F51 (lf) (100 : Int) = F47 (lf) (100 : Int) from by rw [eF51]; exact uF_j (by decide)).trans ((show F47 (lf) (100 : Int) = F44 (lf) (100 : Int) from by rw [eF47]; exact uF_j (by decide)).trans (show F44 (lf) (100 : Int) = 17 - 2 * F me (3 : Int) from by rw [eF44]; exact uF_e))))))))]; omega), (by rw [show F131 (lf) (100 : Int) = 17 - 2 * F me (3 : Int) from ((show F131 (lf) (100 : Int) = F127 (lf) (100 : Int) from by rw [eF131]; exact uF_j (by decide)).trans ((show F127 (lf) (100 : Int) = F124 (lf) (100 : Int) from by rw [eF127]; exact uF_j (by decide)).trans ((show F124 (lf) (100 : Int) = F78 (lf) (100 : Int) from by rw [eF124]; exact uF_a (by omega)).trans ((show F78 (lf) (100 : Int) = F63 (lf) (100 : Int) from hM82 _ _ ho15.1 (own_z ho15.1) (by rw [ho15.2]; rfl)).trans ((show F63 (lf) (100 : Int) = F51 (lf) (100 : Int) from hM65 _ _ ho15.1 (own_z ho15.1) (by rw [ho15.2]; rfl)).trans ((show F51 (lf) (100 : Int) = F47 (lf) (100 : Int) from by rw [eF51]; exact uF_j (by decide)).trans ((show F47 (lf) (100 : Int) = F44 (lf) (100 : Int) from by rw [eF47]; exact uF_j (by decide)).trans (show F44 (lf) (100 : Int) = 17 - 2 * F me (3 : Int) from by rw [eF44]; exact uF_e))))))))]; omega)⟩)) (Or.inr (by rw [show F131 (n11) (5 : Int) = r79 from (show F131 (n11) (5 : Int) = r79 from by rw [eF131]; exact uF_e)]; exact ⟨((show F131 (r79) (103 : Int) = F127 (r79) (103 : Int) from by rw [eF131]; exact uF_j (by decide)).trans (show F127 (r79) (103 : Int) = 1 from by rw [eF127]; exact uF_e)), (by rw [show F131 (r79) (100 : Int) = 17 - 2 * F me (3 : Int) from ((show F131 (r79) (100 : Int) = F127 (r79) (100 : Int) from by rw [eF131]; exact uF_j (by decide)).trans ((show F127 (r79) (100 : Int) = F124 (r79) (100 : Int) from by rw [eF127]; exact uF_j (by decide)).trans (show F124 (r79) (100 : Int) = 17 - 2 * F me (3 : Int) from by rw [eF124]; exact uF_e)))]; omega), (by rw [show F131 (r79) (100 : Int) = 17 - 2 * F me (3 : Int) from ((show F131 (r79) (100 : Int) = F127 (r79) (100 : Int) from by rw [eF131]; exact uF_j (by decide)).trans ((show F127 (r79) (100 : Int) = F124 (r79) (100 : Int) from by rw [eF127]; exact uF_j (by decide)).trans (show F124 (r79) (100 : Int) = 17 - 2 * F me (3 : Int) from by rw [eF124]; exact uF_e)))]; omega)⟩)) (Or.inl ((show F131 (n11) (6 : Int) = F127 (n11) (6 : Int) from by rw [eF131]; exact uF_j (by decide)).trans ((show F127 (n11) (6 : Int) = F124 (n11) (6 : Int) from by rw [eF127]; exact uF_j (by decide)).trans ((show F124 (n11) (6 : Int) = F78 (n11) (6 : Int) from by rw [eF124]; exact uF_j (by decide)).trans ((show F78 (n11) (6 : Int) = F63 (n11) (6 : Int) from hM82 _ _ ho11.1 (own_z ho11.1) (by rw [ho11.2]; rfl)).trans ((show F63 (n11) (6 : Int) = F51 (n11) (6 : Int) from hM65 _ _ ho11.1 (own_z ho11.1) (by rw [ho11.2]; rfl)).trans ((show F51 (n11) (6 : Int) = F47 (n11) (6 : Int) from by rw [eF51]; exact uF_j (by decide)).trans ((show F47 (n11) (6 : Int) = F44 (n11) (6 : Int) from by rw [eF47]; exact uF_j (by decide)).trans ((show F44 (n11) (6 : Int) = F36 (n11) (6 : Int) from by rw [eF44]; exact uF_j (by decide)).trans ((show F36 (n11) (6 : Int) = F23 (n11) (6 : Int) from by rw [eF36]; exact uF_j (by decide)).trans (show F23 (n11) (6 : Int) = 0 from zp27 _ (by decide) (by decide)))))))))))) (Or.inl ((show F131 (n11) (7 : Int) = F127 (n11) (7 : Int) from by rw [eF131]; exact uF_j (by decide)).trans ((show F127 (n11) (7 : Int) = F124 (n11) (7 : Int) from by rw [eF127]; exact uF_j (by decide)).trans ((show F124 (n11) (7 : Int) = F78 (n11) (7 : Int) from by rw [eF124]; exact uF_j (by decide)).trans ((show F78 (n11) (7 : Int) = F63 (n11) (7 : Int) from hM82 _ _ ho11.1 (own_z ho11.1) (by rw [ho11.2]; rfl)).trans ((show F63 (n11) (7 : Int) = F51 (n11) (7 : Int) from hM65 _ _ ho11.1 (own_z ho11.1) (by rw [ho11.2]; rfl)).trans ((show F51 (n11) (7 : Int) = F47 (n11) (7 : Int) from by rw [eF51]; exact uF_j (by decide)).trans ((show F47 (n11) (7 : Int) = F44 (n11) (7 : Int) from by rw [eF47]; exact uF_j (by decide)).trans ((show F44 (n11) (7 : Int) = F36 (n11) (7 : Int) from by rw [eF44]; exact uF_j (by decide)).trans ((show F36 (n11) (7 : Int) = F23 (n11) (7 : Int) from by rw [eF36]; exact uF_j (by decide)).trans (show F23 (n11) (7 : Int) = 0 from zp27 _ (by decide) (by decide)))))))))))) (Or.inl (by rw [show F131 (n11) (0 : Int) = F23 (n11) (0 : Int) from ((show F131 (n11) (0 : Int) = F127 (n11) (0 : Int) from by rw [eF131]; exact uF_j (by decide)).trans ((show F127 (n11) (0 : Int) = F124 (n11) (0 : Int) from by rw [eF127]; exact uF_j (by decide)).trans ((show F124 (n11) (0 : Int) = F78 (n11) (0 : Int) from by rw [eF124]; exact uF_j (by decide)).trans ((show F78 (n11) (0 : Int) = F63 (n11) (0 : Int) from hM82 _ _ ho11.1 (own_z ho11.1) (by rw [ho11.2]; rfl)).trans ((show F63 (n11) (0 : Int) = F51 (n11) (0 : Int) from hM65 _ _ ho11.1 (own_z ho11.1) (by rw [ho11.2]; rfl)).trans ((show F51 (n11) (0 : Int) = F47 (n11) (0 : Int) from by rw [eF51]; exact uF_j (by decide)).trans ((show F47 (n11) (0 : Int) = F44 (n11) (0 : Int) from by rw [eF47]; exact uF_j (by decide)).trans ((show F44 (n11) (0 : Int) = F36 (n11) (0 : Int) from by rw [eF44]; exact uF_j (by decide)).trans (show F36 (n11) (0 : Int) = F23 (n11) (0 : Int) from by rw [eF36]; exact uF_j (by decide))))))))))]; omega))), by omega, by omega, c134, c120, trivial⟩
  · have _q := h10
    refine jx_ld (pc_q := 11) (l_q := L0) (st_q := [rv (lf)]) rfl (jl_rvn g2) ?_
    refine jx_rt (v := some (rv (lf))) rfl rfl rfl rfl rfl jr_are ?_
    have q149 := tz_b (F (sc) (15 : Int))
    have q150 := lz_b (F (sc) (14 : Int))
    exact Or.inl ⟨m, tg, ln, F, (lf), rfl, rfl, hX0, hC, hM0, ⟨o_lf, t_lf⟩, by omega, by omega, by omega, by omega, by omega, by omega, by omega, by omega, (WK_m wk_lf (by omega)), by omega, by omega, c_NP, NM_0, trivial⟩
set_option maxRecDepth 20000 in
set_option maxHeartbeats 4000000 in
theorem k_LParser_expression {X : jX} {kk : Nat} (hE : 1 ≤ kk → PEx X (kk - 1)) {dd : Nat} {R : Nat → jC} {m : Nat} {tg ln : Int → Int} {F : Int → Int → Int} {me : Int} (hd : 5 * kk + 8 ≤ dd) (hC : HC 0 m tg ln F) {sc pg : Int} (o_sc : own m sc) (t_sc : tg sc = 11) (e_sc : F me (1 : Int) = sc) (o_pg : own m pg) (t_pg : tg pg = 10) (e_pg : F me (0 : Int) = pg) (o_me : own m me) (t_me : tg me = 9) (p_0 : F sc (8 : Int) + 2 * tz (F sc (15 : Int)) ≤ F sc (7 : Int) + 1) (p_1 : F sc (8 : Int) + 2 * lz (F sc (14 : Int)) ≤ F sc (7 : Int) + 1) (p_2 : F sc (8 : Int) ≤ F sc (7 : Int)) (p_3 : 9 ≤ (kk : Int) + F me (3 : Int)) (c_NP : NP m tg F) : wk X dd 200 [rv me] (cV R m tg ln F) (fun o V_q => (∃ (m_q : Nat) (tg_q ln_q : Int → Int) (F_q : Int → Int → Int) (r : Int), V_q = cV R m_q tg_q ln_q F_q ∧ o = .inl (some (rv r)) ∧ Ex m tg ln m_q tg_q ln_q ∧ HC 0 m_q tg_q ln_q F_q ∧ Fq 0 [(9, 3), (10, 0), (10, 1), (10, 2), (10, 9), (11, 8), (11, 12), (11, 13), (11, 14), (11, 15), (11, 16), (11, 17), (11, 18)] m tg F F_q ∧ (own m_q r ∧ tg_q r = 8) ∧ (F_q sc (8 : Int) + 2 * tz (F_q sc (15 : Int)) ≤ F sc (7 : Int) + 1) ∧ (F_q sc (8 : Int) + 2 * lz (F_q sc (14 : Int)) ≤ F sc (7 : Int) + 1) ∧ (F_q sc (8 : Int) ≤ F sc (7 : Int)) ∧ (F sc (8 : Int) ≤ F_q sc (8 : Int)) ∧ (szD m_q tg_q ln_q = szD m tg ln + 25 * ((m_q : Int) - (m : Int))) ∧ ((m_q : Int) ≤ (m : Int) + (F_q sc (8 : Int) - F sc (8 : Int)) + (0)) ∧ (F_q pg (9 : Int) ≤ F pg (9 : Int) + ((m_q : Int) - (m : Int))) ∧ (64 + (m : Int) ≤ r) ∧ (WK F_q r (18 - 2 * F me (3 : Int))) ∧ (20 ≤ F_q r (0 : Int)) ∧ (F_q me (3 : Int) = F me (3 : Int)) ∧ (NP m_q tg_q F_q) ∧ (NM m m_q tg_q) ∧ True) ∨ (∃ (m_q : Nat) (tg_q ln_q : Int → Int) (F_q : Int → Int → Int) (x : Nat), V_q = cV R m_q tg_q ln_q F_q ∧ o = .inr x ∧ Ex m tg ln m_q tg_q ln_q ∧ HC 0 m_q tg_q ln_q F_q ∧ Fq 0 [(9, 3), (10, 0), (10, 1), (10, 2), (10, 9), (11, 8), (11, 12), (11, 13), (11, 14), (11, 15), (11, 16), (11, 17), (11, 18)] m tg F F_q ∧ (own m_q (x : Int)) ∧ (tg_q (x : Int) = 16) ∧ (F_q pg (0 : Int) ≠ 0) ∧ (szD m_q tg_q ln_q = szD m tg ln + 25 * ((m_q : Int) - (m : Int))) ∧ ((m_q : Int) ≤ (m : Int) + (F_q sc (8 : Int) - F sc (8 : Int)) + (1)) ∧ (F_q sc (8 : Int) ≤ F sc (7 : Int) + 1) ∧ (NP m_q tg_q F_q) ∧ (NM m m_q tg_q) ∧ True)) := by
  obtain ⟨d, rfl⟩ : ∃ d, dd = d + 1 := ⟨dd - 1, by omega⟩
  refine wk_of (e := jm200) rfl (by rw [jS_r, jS_0]; exact Nat.le_of_ble_eq_true rfl) ?_
  rw [la_r, la_0]
  show wj X d jm200 (0, [(0, rv (me))], [], cV R m tg ln F) _
  have hM0 : Fq 0 [(9, 3), (10, 0), (10, 1), (10, 2), (10, 9), (11, 8), (11, 12), (11, 13), (11, 14), (11, 15), (11, 16), (11, 17), (11, 18)] m tg F F := Fq_r
  have hX0 : Ex m tg ln m tg ln := Ex_r
  obtain ⟨L0, eL0⟩ : ∃ q : jL, q = [(0, rv (me))] := ⟨_, rfl⟩
  rw [← eL0]
  have g1 : jGet L0 0 = some (rv (me)) := eL0 ▸ (rfl : jGet [(0, rv (me))] 0 = some (rv (me)))
  clear eL0
  have tb0 := tz_b (F sc (15 : Int))
  have lb0 := lz_b (F sc (14 : Int))
  have ob0 : (0 : Int) ≤ F me (3 : Int) ∧ F me (3 : Int) ≤ 8 := HC_i (c := 8) (q := 3) hC o_me t_me (by decide) rfl
  have tp0 : F me (2 : Int) < 64 + (m : Int) := by
    have z : F me (2 : Int) = 0 ∨ (own m (F me (2 : Int)) ∧ tg (F me (2 : Int)) = 7) := HC_r (c := 8) (q := 2) hC o_me t_me (by decide) rfl
    rcases z with w | w
    · omega
    · exact w.1.2.1
  refine jx_ld (pc_q := 1) (l_q := L0) (st_q := [rv (me)]) rfl (jl_rvn g1) ?_
  refine cx_gr (pc_q := 4) (c := 8) (q := 1) (v := sc) rfl rfl (by decide) (by decide) rfl rfl o_me t_me e_sc ?_
  refine cx_gi (pc_q := 7) (c := 10) (q := 15) (v := F (sc) (15 : Int)) rfl rfl (by decide) (by decide) (Or.inl rfl) rfl o_sc t_sc rfl ?_
  have b2 : (-2147483648 : Int) ≤ F (sc) (15 : Int) ∧ F (sc) (15 : Int) ≤ 2147483647 := by have z := HC_i (c := 10) (q := 15) hC o_sc t_sc (by decide) rfl; rw [show F (sc) ((15 : Nat) : Int) = F (sc) (15 : Int) from rfl] at z; exact z
  refine jx_ar (pc_q := 9) (st_q := [.int (i32 (62)), .int (i32 (F (sc) (15 : Int)))]) rfl rfl rfl rfl ?_
  refine jx_icmp_eq (pc_q := 12) (tg := 24) rfl rfl rfl (by omega) (by omega) (by decide) (by decide) (fun h3 => ?_) (fun h3 => ?_)
  · have _q := h3
    have t4 : tz (F (sc) (15 : Int)) = 1 := tz_p (by omega)
    refine cx_newp (pc_q := 27) (c := 7) rfl rfl (by decide) rfl rfl hC rfl (by decide) (fun n5 m5 tg5 ln5 F5 en5 em5 ho5 hx5 hC5 hf5 h05 hs5 => ?_)
    have ex5 : 64 + (m : Int) ≤ n5 := by have := hX0.1; omega
    have lm6 := hx5.1
    have ho7 : own m5 (me) ∧ tg5 (me) = 9 := Ex_o hx5 ⟨o_me, t_me⟩
    have ho8 : own m5 (sc) ∧ tg5 (sc) = 11 := Ex_o hx5 ⟨o_sc, t_sc⟩
    have ho9 : own m5 (pg) ∧ tg5 (pg) = 10 := Ex_o hx5 ⟨o_pg, t_pg⟩
    have hX10 := Ex_t hX0 hx5
    have hM11 : Fq 0 [(9, 3), (10, 0), (10, 1), (10, 2), (10, 9), (11, 8), (11, 12), (11, 13), (11, 14), (11, 15), (11, 16), (11, 17), (11, 18)] m tg F F5 := Fq_n hM0 hf5 ex5
    have c12 : NM m m5 tg5 := NM_n NM_0 hC.1 hx5 en5 em5 ho5.2 (by decide)
    refine jx_ar (pc_q := 28) (st_q := [rv (n5), rv (n5)]) rfl rfl ja_dup rfl ?_
    refine jx_ld (pc_q := 29) (l_q := L0) (st_q := [rv (me), rv (n5), rv (n5)]) rfl (jl_rvn g1) ?_
    refine cx_gr (pc_q := 32) (c := 8) (q := 1) (v := sc) rfl rfl (by decide) (by decide) rfl rfl ho7.1 ho7.2 ((show F5 (me) (1 : Int) = F (me) (1 : Int) from hf5 _ _ (ne_n o_me en5)).trans e_sc) ?_
    refine cx_gi (pc_q := 35) (c := 10) (q := 15) (v := F (sc) (15 : Int)) rfl rfl (by decide) (by decide) (Or.inl rfl) rfl ho8.1 ho8.2 (show F5 (sc) (15 : Int) = F (sc) (15 : Int) from hf5 _ _ (ne_n o_sc en5)) ?_
    refine jx_ar (pc_q := 37) (st_q := [.int (i32 (25)), .int (i32 (F (sc) (15 : Int))), rv (n5), rv (n5)]) rfl rfl rfl rfl ?_
    refine jx_icmp_ne (pc_q := 40) (tg := 45) rfl rfl rfl (by omega) (by omega) (by decide) (by decide) (fun h13 => ?_) (fun h13 => ?_)
    · have _q := h13
      refine jx_ar (pc_q := 47) (st_q := [.int (i32 (23)), rv (n5), rv (n5)]) rfl rfl rfl rfl ?_
      refine jx_ld (pc_q := 48) (l_q := L0) (st_q := [rv (me), .int (i32 (23)), rv (n5), rv (n5)]) rfl (jl_rvn g1) ?_
      refine cx_gr (pc_q := 51) (c := 8) (q := 1) (v := sc) rfl rfl (by decide) (by decide) rfl rfl ho7.1 ho7.2 ((show F5 (me) (1 : Int) = F (me) (1 : Int) from hf5 _ _ (ne_n o_me en5)).trans e_sc) ?_
      refine cx_gi (pc_q := 54) (c := 10) (q := 13) (v := F (sc) (13 : Int)) rfl rfl (by decide) (by decide) (Or.inl rfl) rfl ho8.1 ho8.2 (show F5 (sc) (13 : Int) = F (sc) (13 : Int) from hf5 _ _ (ne_n o_sc en5)) ?_
      have b14 : (-2147483648 : Int) ≤ F (sc) (13 : Int) ∧ F (sc) (13 : Int) ≤ 2147483647 := by have z := HC_i (c := 10) (q := 13) hC5 ho8.1 ho8.2 (by decide) rfl; rw [show F5 (sc) ((13 : Nat) : Int) = F (sc) (13 : Int) from (show F5 (sc) (13 : Int) = F (sc) (13 : Int) from hf5 _ _ (ne_n o_sc en5))] at z; exact z
      refine cx_sp (kd := 2) (a := n5) (st := [rv (n5)]) (as := [.int (i32 (23)), .int (i32 (F (sc) (13 : Int)))]) rfl rfl (by decide) rfl ho5.1.1 ⟨rfl, (by rw [jS_r, jS_0]; exact Nat.le_of_ble_eq_true rfl)⟩ rfl (k_LNode_init (dd := d) (R := R) (m := m5) (tg := tg5) (ln := ln5) (F := F5) (me := n5) (kd := 23) (l := F (sc) (13 : Int)) (hd := by omega) (hC := hC5) (o_me := ho5.1) (t_me := ho5.2) (h_kd := by omega) (h_l := by omega) (z_me := h05)) (fun o V_q hq => ?_)
      obtain ⟨F15, rfl, rfl, hC16, hM17, p18, zp19, -⟩ := hq
      have hM20 : Fq 0 [(9, 3), (10, 0), (10, 1), (10, 2), (10, 9), (11, 8), (11, 12), (11, 13), (11, 14), (11, 15), (11, 16), (11, 17), (11, 18)] m tg F F15 := Fq_t (ln := ln) (ln1 := ln5) hM11 hX10 hM17 (by decide) (Or.inr (Or.inr ex5))
      have c21 : NP m5 tg5 F15 := NP_nn hC c_NP hx5 en5 em5 (fun b i ob => (hM17 b i (own_m ob hx5.1) (ne_n ob en5) rfl).trans (hf5 b i (ne_n ob en5))) (fun _ => (zp19 _ (by decide) (by decide))) (fun w => absurd (ho5.2.symm.trans w) (by decide)) (fun w => absurd (ho5.2.symm.trans w) (by decide))
      refine Or.inl ⟨rfl, ?_⟩
      refine jx_ld (pc_q := 58) (l_q := jSto1 L0 1 (rv (n5))) (st_q := []) rfl (js_rvn (by decide)) ?_
      obtain ⟨L22, eL22⟩ : ∃ q : jL, q = jSto1 L0 1 (rv (n5)) := ⟨_, rfl⟩
      rw [← eL22]
      have g23 : jGet L22 0 = some (rv (me)) := eL22 ▸ jg_nr (by decide) g1
      have g24 : jGet L22 1 = some (rv (n5)) := eL22 ▸ jg_eq
      clear eL22
      refine jx_ld (pc_q := 59) (l_q := L22) (st_q := [rv (me)]) rfl (jl_rvn g23) ?_
      refine cx_gr (pc_q := 62) (c := 8) (q := 1) (v := sc) rfl rfl (by decide) (by decide) rfl rfl ho7.1 ho7.2 (((show F15 (me) (1 : Int) = F5 (me) (1 : Int) from hM17 _ _ ho7.1 (fun w => by have q1 := ho7.2; rw [w, ho5.2] at q1; exact absurd q1 (by decide)) (by rw [ho7.2]; rfl)).trans (show F5 (me) (1 : Int) = F (me) (1 : Int) from hf5 _ _ (ne_n o_me en5))).trans e_sc) ?_
      have q25 : F15 (sc) (8 : Int) = F (sc) (8 : Int) := ((show F15 (sc) (8 : Int) = F5 (sc) (8 : Int) from hM17 _ _ ho8.1 (fun w => by have q1 := ho8.2; rw [w, ho5.2] at q1; exact absurd q1 (by decide)) (by rw [ho8.2]; rfl)).trans (show F5 (sc) (8 : Int) = F (sc) (8 : Int) from hf5 _ _ (ne_n o_sc en5)))
      have q26 : F15 (sc) (15 : Int) = F (sc) (15 : Int) := ((show F15 (sc) (15 : Int) = F5 (sc) (15 : Int) from hM17 _ _ ho8.1 (fun w => by have q1 := ho8.2; rw [w, ho5.2] at q1; exact absurd q1 (by decide)) (by rw [ho8.2]; rfl)).trans (show F5 (sc) (15 : Int) = F (sc) (15 : Int) from hf5 _ _ (ne_n o_sc en5)))
      have q27 : tz (F15 (sc) (15 : Int)) = tz (F (sc) (15 : Int)) := by rw [q26]
      have q28 := tz_b (F (sc) (15 : Int))
      have q29 : F15 (sc) (7 : Int) = F (sc) (7 : Int) := ((show F15 (sc) (7 : Int) = F5 (sc) (7 : Int) from hM17 _ _ ho8.1 (fun w => by have q1 := ho8.2; rw [w, ho5.2] at q1; exact absurd q1 (by decide)) (by rw [ho8.2]; rfl)).trans (show F5 (sc) (7 : Int) = F (sc) (7 : Int) from hf5 _ _ (ne_n o_sc en5)))
      have q30 : F15 (sc) (14 : Int) = F (sc) (14 : Int) := ((show F15 (sc) (14 : Int) = F5 (sc) (14 : Int) from hM17 _ _ ho8.1 (fun w => by have q1 := ho8.2; rw [w, ho5.2] at q1; exact absurd q1 (by decide)) (by rw [ho8.2]; rfl)).trans (show F5 (sc) (14 : Int) = F (sc) (14 : Int) from hf5 _ _ (ne_n o_sc en5)))
      have q31 : lz (F15 (sc) (14 : Int)) = lz (F (sc) (14 : Int)) := by rw [q30]
      have q32 := lz_b (F (sc) (14 : Int))
      refine cx_vi (c := 10) (a := sc) (st := []) (as := []) rfl rfl rfl ho8.1 ho8.2 (by decide) rfl ⟨rfl, rfl, (Nat.le_of_ble_eq_true rfl)⟩ rfl (k_LScanner_next (dd := d) (R := R) (m := m5) (tg := tg5) (ln := ln5) (F := F15) (me := sc) (hd := by omega) (hC := hC16) (o_me := ho8.1) (t_me := ho8.2) (p_0 := by omega) (p_1 := by omega)) (fun o V_q hq => ?_)
      obtain ⟨F33, rfl, rfl, hC34, hM35, p36, p37, p38, -⟩ := hq
      have hM39 : Fq 0 [(9, 3), (10, 0), (10, 1), (10, 2), (10, 9), (11, 8), (11, 12), (11, 13), (11, 14), (11, 15), (11, 16), (11, 17), (11, 18)] m tg F F33 := Fq_t (ln := ln) (ln1 := ln5) hM20 hX10 hM35 (by decide) (Or.inl rfl)
      have c40 : NP m5 tg5 F33 := NP_q hC16 c21 hM35 rfl rfl
      refine Or.inl ⟨rfl, ?_⟩
      refine jx_ld (pc_q := 66) (l_q := L22) (st_q := [rv (n5)]) rfl (jl_rvn g24) ?_
      refine jx_ld (pc_q := 67) (l_q := L22) (st_q := [rv (me), rv (n5)]) rfl (jl_rvn g23) ?_
      have b41 : (0 : Int) ≤ F (me) (3 : Int) ∧ F (me) (3 : Int) ≤ 8 := by have z := HC_i (c := 8) (q := 3) hC34 ho7.1 ho7.2 (by decide) rfl; rw [show F33 (me) ((3 : Nat) : Int) = F (me) (3 : Int) from ((show F33 (me) (3 : Int) = F15 (me) (3 : Int) from hM35 _ _ ho7.1 (own_z ho7.1) (by rw [ho7.2]; rfl)).trans ((show F15 (me) (3 : Int) = F5 (me) (3 : Int) from hM17 _ _ ho7.1 (fun w => by have q1 := ho7.2; rw [w, ho5.2] at q1; exact absurd q1 (by decide)) (by rw [ho7.2]; rfl)).trans (show F5 (me) (3 : Int) = F (me) (3 : Int) from hf5 _ _ (ne_n o_me en5))))] at z; exact z
      have q42 := tz_b (F33 (sc) (15 : Int))
      have q43 : F33 (sc) (7 : Int) = F (sc) (7 : Int) := ((show F33 (sc) (7 : Int) = F15 (sc) (7 : Int) from hM35 _ _ ho8.1 (own_z ho8.1) (by rw [ho8.2]; rfl)).trans ((show F15 (sc) (7 : Int) = F5 (sc) (7 : Int) from hM17 _ _ ho8.1 (fun w => by have q1 := ho8.2; rw [w, ho5.2] at q1; exact absurd q1 (by decide)) (by rw [ho8.2]; rfl)).trans (show F5 (sc) (7 : Int) = F (sc) (7 : Int) from hf5 _ _ (ne_n o_sc en5))))
      have q44 := lz_b (F33 (sc) (14 : Int))
      have q45 : F33 (me) (3 : Int) = F (me) (3 : Int) := ((show F33 (me) (3 : Int) = F15 (me) (3 : Int) from hM35 _ _ ho7.1 (own_z ho7.1) (by rw [ho7.2]; rfl)).trans ((show F15 (me) (3 : Int) = F5 (me) (3 : Int) from hM17 _ _ ho7.1 (fun w => by have q1 := ho7.2; rw [w, ho5.2] at q1; exact absurd q1 (by decide)) (by rw [ho7.2]; rfl)).trans (show F5 (me) (3 : Int) = F (me) (3 : Int) from hf5 _ _ (ne_n o_me en5))))
      have q46 : F33 (pg) (9 : Int) = F (pg) (9 : Int) := ((show F33 (pg) (9 : Int) = F15 (pg) (9 : Int) from hM35 _ _ ho9.1 (own_z ho9.1) (by rw [ho9.2]; rfl)).trans ((show F15 (pg) (9 : Int) = F5 (pg) (9 : Int) from hM17 _ _ ho9.1 (fun w => by have q1 := ho9.2; rw [w, ho5.2] at q1; exact absurd q1 (by decide)) (by rw [ho9.2]; rfl)).trans (show F5 (pg) (9 : Int) = F (pg) (9 : Int) from hf5 _ _ (ne_n o_pg en5))))
      refine cx_vi (c := 8) (a := me) (st := [rv (n5)]) (as := []) rfl rfl rfl ho7.1 ho7.2 (by decide) rfl ⟨rfl, rfl, (by rw [jS_r, jS_0]; exact Nat.le_of_ble_eq_true rfl)⟩ rfl (k_LParser_operand (dd := d) (R := R) (m := m5) (tg := tg5) (ln := ln5) (F := F33) (kk := kk) (hE := hE) (me := me) (hd := by omega) (hC := hC34) (o_me := ho7.1) (t_me := ho7.2) (sc := sc) (pg := pg) (o_sc := ho8.1) (t_sc := ho8.2) (e_sc := (((show F33 (me) (1 : Int) = F15 (me) (1 : Int) from hM35 _ _ ho7.1 (own_z ho7.1) (by rw [ho7.2]; rfl)).trans ((show F15 (me) (1 : Int) = F5 (me) (1 : Int) from hM17 _ _ ho7.1 (fun w => by have q1 := ho7.2; rw [w, ho5.2] at q1; exact absurd q1 (by decide)) (by rw [ho7.2]; rfl)).trans (show F5 (me) (1 : Int) = F (me) (1 : Int) from hf5 _ _ (ne_n o_me en5)))).trans e_sc)) (o_pg := ho9.1) (t_pg := ho9.2) (e_pg := (((show F33 (me) (0 : Int) = F15 (me) (0 : Int) from hM35 _ _ ho7.1 (own_z ho7.1) (by rw [ho7.2]; rfl)).trans ((show F15 (me) (0 : Int) = F5 (me) (0 : Int) from hM17 _ _ ho7.1 (fun w => by have q1 := ho7.2; rw [w, ho5.2] at q1; exact absurd q1 (by decide)) (by rw [ho7.2]; rfl)).trans (show F5 (me) (0 : Int) = F (me) (0 : Int) from hf5 _ _ (ne_n o_me en5)))).trans e_pg)) (p_0 := by omega) (p_1 := by omega) (p_2 := by omega) (p_3 := by omega) (c_NP := c40)) (fun o V_q hq => ?_)
      obtain ⟨m47, tg47, ln47, F48, r49, rfl, rfl, hx50, hC51, hM52, b53, p54, p55, p56, p57, p58, p59, p60, p61, p62, p63, p64, c65, c66, -⟩ | ⟨m67, tg67, ln67, F67, x67, rfl, rfl, hx67, hC67, hM67, ho67, ht67, p68, p69, p70, p71, c72, c73, -⟩ := hq
      rotate_left
      ·
        have c74 : NM m m67 tg67 := NM_t c12 hx67 c73
        have lm75 := hx67.1
        refine Or.inr (Or.inr (Or.inr ⟨_, _, rfl, cx_exc (c := 15) ho67 ht67 (by decide), rfl, ?_⟩))
        have q76 : F33 (sc) (7 : Int) = F (sc) (7 : Int) := ((show F33 (sc) (7 : Int) = F15 (sc) (7 : Int) from hM35 _ _ ho8.1 (own_z ho8.1) (by rw [ho8.2]; rfl)).trans ((show F15 (sc) (7 : Int) = F5 (sc) (7 : Int) from hM17 _ _ ho8.1 (fun w => by have q1 := ho8.2; rw [w, ho5.2] at q1; exact absurd q1 (by decide)) (by rw [ho8.2]; rfl)).trans (show F5 (sc) (7 : Int) = F (sc) (7 : Int) from hf5 _ _ (ne_n o_sc en5))))
        exact Or.inr ⟨m67, tg67, ln67, F67, x67, rfl, rfl, Ex_t hX10 hx67, hC67, Fq_t (ln := ln) (ln1 := ln5) hM39 hX10 hM67 (by decide) (Or.inl rfl), (And.intro ho67 ht67).1, (And.intro ho67 ht67).2, by omega, by omega, by omega, by omega, c72, c74, trivial⟩
      have hM77 : Fq 0 [(9, 3), (10, 0), (10, 1), (10, 2), (10, 9), (11, 8), (11, 12), (11, 13), (11, 14), (11, 15), (11, 16), (11, 17), (11, 18)] m tg F F48 := Fq_t (ln := ln) (ln1 := ln5) hM39 hX10 hM52 (by decide) (Or.inl rfl)
      have lm78 := hx50.1
      have lt79 : n5 < 64 + (m5 : Int) := ho5.1.2.1
      have ho80 : own m47 (me) ∧ tg47 (me) = 9 := Ex_o hx50 ⟨ho7.1, ho7.2⟩
      have ho81 : own m47 (n5) ∧ tg47 (n5) = 8 := Ex_o hx50 ⟨ho5.1, ho5.2⟩
      have ho82 : own m47 (sc) ∧ tg47 (sc) = 11 := Ex_o hx50 ⟨ho8.1, ho8.2⟩
      have ho83 : own m47 (pg) ∧ tg47 (pg) = 10 := Ex_o hx50 ⟨ho9.1, ho9.2⟩
      have hX84 := Ex_t hX10 hx50
      have q85 := p62.1
      have q86 := p62.2.1
      have q87 := p62.2.2.1
      have c88 : NM m m47 tg47 := NM_t c12 hx50 c66
      refine Or.inr (Or.inl ⟨_, rfl, ?_⟩)
      have q89 := p62.1
      have q90 := p62.2.1
      have q91 := p62.2.2.1
      rw [← cV_gh (F := F48) (a := r49) (j := 100) (z := 17 - 2 * F me (3 : Int)) (Or.inr ⟨by decide, by rw [b53.2]; decide⟩)]
      obtain ⟨F92, eF92⟩ : ∃ q, q = uF F48 (r49) (100 : Int) (17 - 2 * F me (3 : Int)) := ⟨_, rfl⟩
      rw [← eF92]
      have hC93 : HC 0 m47 tg47 ln47 F92 := by rw [eF92]; exact HC_gh hC51 (by rw [b53.2]; decide) (by decide)
      have hM94 : Fq 0 [(9, 3), (10, 0), (10, 1), (10, 2), (10, 9), (11, 8), (11, 12), (11, 13), (11, 14), (11, 15), (11, 16), (11, 17), (11, 18)] m tg F F92 := by rw [eF92]; exact Fq_x hM77 (Or.inr (by have := hX84.1; omega))
      rw [← cV_gh (F := F92) (a := r49) (j := 103) (z := 1) (Or.inr ⟨by decide, by rw [b53.2]; decide⟩)]
      obtain ⟨F95, eF95⟩ : ∃ q, q = uF F92 (r49) (103 : Int) (1) := ⟨_, rfl⟩
      rw [← eF95]
      have hC96 : HC 0 m47 tg47 ln47 F95 := by rw [eF95]; exact HC_gh hC93 (by rw [b53.2]; decide) (by decide)
      have hM97 : Fq 0 [(9, 3), (10, 0), (10, 1), (10, 2), (10, 9), (11, 8), (11, 12), (11, 13), (11, 14), (11, 15), (11, 16), (11, 17), (11, 18)] m tg F F95 := by rw [eF95]; exact Fq_x hM94 (Or.inr (by have := hX84.1; omega))
      have c98 : NP m47 tg47 F95 := by rw [eF95, eF92]; exact NP_seal hC51 c65 b53.1 b53.2 p62 (by omega)
      refine cx_po (pc_q := 73) (c := 7) (q := 4) (qi := (4 : Int)) (z := r49) rfl rfl (by decide) (by decide) rfl rfl rfl (by decide) rfl ho81.1 ho81.2 rfl ?_
      obtain ⟨F99, eF99⟩ : ∃ q, q = uF F95 (n5) (4 : Int) (r49) := ⟨_, rfl⟩
      rw [← eF99]
      have hC100 : HC 0 m47 tg47 ln47 F99 := by rw [eF99]; exact HC_fr (c := 7) (q := 4) (by decide) hC96 ho81.2 (by decide) rfl (Or.inr ⟨b53.1, b53.2⟩) ⟨fun w => absurd w (by decide), fun w => absurd w (by decide)⟩
      have hM101 : Fq 0 [(9, 3), (10, 0), (10, 1), (10, 2), (10, 9), (11, 8), (11, 12), (11, 13), (11, 14), (11, 15), (11, 16), (11, 17), (11, 18)] m tg F F99 := by rw [eF99]; exact Fq_x hM97 (Or.inr ex5)
      have c102 : NP m47 tg47 F99 := by rw [eF99]; exact NP_un hC96 c98 ho81.1 ho81.2 ((show F95 (n5) (103 : Int) = F92 (n5) (103 : Int) from by rw [eF95]; exact uF_a (by omega)).trans ((show F92 (n5) (103 : Int) = F48 (n5) (103 : Int) from by rw [eF92]; exact uF_j (by decide)).trans ((show F48 (n5) (103 : Int) = F33 (n5) (103 : Int) from hM52 _ _ ho5.1 (own_z ho5.1) (by rw [ho5.2]; rfl)).trans ((show F33 (n5) (103 : Int) = F15 (n5) (103 : Int) from hM35 _ _ ho5.1 (own_z ho5.1) (by rw [ho5.2]; rfl)).trans (show F15 (n5) (103 : Int) = 0 from zp19 _ (by decide) (by decide)))))) (by decide) (Or.inl (by decide))
      refine jx_ld (pc_q := 74) (l_q := L22) (st_q := [rv (n5)]) rfl (jl_rvn g24) ?_
      refine jx_rt (v := some (rv (n5))) rfl rfl rfl rfl rfl jr_are ?_
      have q103 : F99 (sc) (7 : Int) = F (sc) (7 : Int) := ((show F99 (sc) (7 : Int) = F95 (sc) (7 : Int) from by rw [eF99]; exact uF_j (by decide)).trans ((show F95 (sc) (7 : Int) = F92 (sc) (7 : Int) from by rw [eF95]; exact uF_j (by decide)).trans ((show F92 (sc) (7 : Int) = F48 (sc) (7 : Int) from by rw [eF92]; exact uF_j (by decide)).trans ((show F48 (sc) (7 : Int) = F33 (sc) (7 : Int) from hM52 _ _ ho8.1 (own_z ho8.1) (by rw [ho8.2]; rfl)).trans ((show F33 (sc) (7 : Int) = F15 (sc) (7 : Int) from hM35 _ _ ho8.1 (own_z ho8.1) (by rw [ho8.2]; rfl)).trans ((show F15 (sc) (7 : Int) = F5 (sc) (7 : Int) from hM17 _ _ ho8.1 (fun w => by have q1 := ho8.2; rw [w, ho5.2] at q1; exact absurd q1 (by decide)) (by rw [ho8.2]; rfl)).trans (show F5 (sc) (7 : Int) = F (sc) (7 : Int) from hf5 _ _ (ne_n o_sc en5))))))))
      have q104 : F99 (sc) (8 : Int) = F48 (sc) (8 : Int) := ((show F99 (sc) (8 : Int) = F95 (sc) (8 : Int) from by rw [eF99]; exact uF_j (by decide)).trans ((show F95 (sc) (8 : Int) = F92 (sc) (8 : Int) from by rw [eF95]; exact uF_j (by decide)).trans (show F92 (sc) (8 : Int) = F48 (sc) (8 : Int) from by rw [eF92]; exact uF_j (by decide))))
      have q105 : F99 (pg) (9 : Int) = F48 (pg) (9 : Int) := ((show F99 (pg) (9 : Int) = F95 (pg) (9 : Int) from by rw [eF99]; exact uF_j (by decide)).trans ((show F95 (pg) (9 : Int) = F92 (pg) (9 : Int) from by rw [eF95]; exact uF_j (by decide)).trans (show F92 (pg) (9 : Int) = F48 (pg) (9 : Int) from by rw [eF92]; exact uF_j (by decide))))
      have q106 : F99 (me) (3 : Int) = F48 (me) (3 : Int) := ((show F99 (me) (3 : Int) = F95 (me) (3 : Int) from by rw [eF99]; exact uF_j (by decide)).trans ((show F95 (me) (3 : Int) = F92 (me) (3 : Int) from by rw [eF95]; exact uF_j (by decide)).trans (show F92 (me) (3 : Int) = F48 (me) (3 : Int) from by rw [eF92]; exact uF_j (by decide))))
      have q107 : F99 (sc) (8 : Int) = F48 (sc) (8 : Int) := ((show F99 (sc) (8 : Int) = F95 (sc) (8 : Int) from by rw [eF99]; exact uF_j (by decide)).trans ((show F95 (sc) (8 : Int) = F92 (sc) (8 : Int) from by rw [eF95]; exact uF_j (by decide)).trans (show F92 (sc) (8 : Int) = F48 (sc) (8 : Int) from by rw [eF92]; exact uF_j (by decide))))
      have q108 : F99 (sc) (15 : Int) = F48 (sc) (15 : Int) := ((show F99 (sc) (15 : Int) = F95 (sc) (15 : Int) from by rw [eF99]; exact uF_j (by decide)).trans ((show F95 (sc) (15 : Int) = F92 (sc) (15 : Int) from by rw [eF95]; exact uF_j (by decide)).trans (show F92 (sc) (15 : Int) = F48 (sc) (15 : Int) from by rw [eF92]; exact uF_j (by decide))))
      have q109 : tz (F99 (sc) (15 : Int)) = tz (F48 (sc) (15 : Int)) := by rw [q108]
      have q110 := tz_b (F48 (sc) (15 : Int))
      have q111 : F99 (sc) (14 : Int) = F48 (sc) (14 : Int) := ((show F99 (sc) (14 : Int) = F95 (sc) (14 : Int) from by rw [eF99]; exact uF_j (by decide)).trans ((show F95 (sc) (14 : Int) = F92 (sc) (14 : Int) from by rw [eF95]; exact uF_j (by decide)).trans (show F92 (sc) (14 : Int) = F48 (sc) (14 : Int) from by rw [eF92]; exact uF_j (by decide))))
      have q112 : lz (F99 (sc) (14 : Int)) = lz (F48 (sc) (14 : Int)) := by rw [q111]
      have q113 := lz_b (F48 (sc) (14 : Int))
      have q114 : F99 (pg) (9 : Int) = F48 (pg) (9 : Int) := ((show F99 (pg) (9 : Int) = F95 (pg) (9 : Int) from by rw [eF99]; exact uF_j (by decide)).trans ((show F95 (pg) (9 : Int) = F92 (pg) (9 : Int) from by rw [eF95]; exact uF_j (by decide)).trans (show F92 (pg) (9 : Int) = F48 (pg) (9 : Int) from by rw [eF92]; exact uF_j (by decide))))
      have q115 : F99 (n5) (0 : Int) = F15 (n5) (0 : Int) := ((show F99 (n5) (0 : Int) = F95 (n5) (0 : Int) from by rw [eF99]; exact uF_j (by decide)).trans ((show F95 (n5) (0 : Int) = F92 (n5) (0 : Int) from by rw [eF95]; exact uF_j (by decide)).trans ((show F92 (n5) (0 : Int) = F48 (n5) (0 : Int) from by rw [eF92]; exact uF_j (by decide)).trans ((show F48 (n5) (0 : Int) = F33 (n5) (0 : Int) from hM52 _ _ ho5.1 (own_z ho5.1) (by rw [ho5.2]; rfl)).trans (show F33 (n5) (0 : Int) = F15 (n5) (0 : Int) from hM35 _ _ ho5.1 (own_z ho5.1) (by rw [ho5.2]; rfl))))))
      have q116 : F99 (me) (3 : Int) = F48 (me) (3 : Int) := ((show F99 (me) (3 : Int) = F95 (me) (3 : Int) from by rw [eF99]; exact uF_j (by decide)).trans ((show F95 (me) (3 : Int) = F92 (me) (3 : Int) from by rw [eF95]; exact uF_j (by decide)).trans (show F92 (me) (3 : Int) = F48 (me) (3 : Int) from by rw [eF92]; exact uF_j (by decide))))
      exact Or.inl ⟨m47, tg47, ln47, F99, (n5), rfl, rfl, hX84, hC100, hM101, ⟨ho81.1, ho81.2⟩, by omega, by omega, by omega, by omega, by omega, by omega, by omega, by omega, (WK_i (K := 18 - 2 * F me (3 : Int)) ((show F99 (n5) (103 : Int) = F95 (n5) (103 : Int) from by rw [eF99]; exact uF_j (by decide)).trans ((show F95 (n5) (103 : Int) = F92 (n5) (103 : Int) from by rw [eF95]; exact uF_a (by omega)).trans ((show F92 (n5) (103 : Int) = F48 (n5) (103 : Int) from by rw [eF92]; exact uF_j (by decide)).trans ((show F48 (n5) (103 : Int) = F33 (n5) (103 : Int) from hM52 _ _ ho5.1 (own_z ho5.1) (by rw [ho5.2]; rfl)).trans ((show F33 (n5) (103 : Int) = F15 (n5) (103 : Int) from hM35 _ _ ho5.1 (own_z ho5.1) (by rw [ho5.2]; rfl)).trans (show F15 (n5) (103 : Int) = 0 from zp19 _ (by decide) (by decide))))))) ((show F99 (n5) (101 : Int) = F95 (n5) (101 : Int) from by rw [eF99]; exact uF_j (by decide)).trans ((show F95 (n5) (101 : Int) = F92 (n5) (101 : Int) from by rw [eF95]; exact uF_j (by decide)).trans ((show F92 (n5) (101 : Int) = F48 (n5) (101 : Int) from by rw [eF92]; exact uF_j (by decide)).trans ((show F48 (n5) (101 : Int) = F33 (n5) (101 : Int) from hM52 _ _ ho5.1 (own_z ho5.1) (by rw [ho5.2]; rfl)).trans ((show F33 (n5) (101 : Int) = F15 (n5) (101 : Int) from hM35 _ _ ho5.1 (own_z ho5.1) (by rw [ho5.2]; rfl)).trans (show F15 (n5) (101 : Int) = 0 from zp19 _ (by decide) (by decide))))))) ((show F99 (n5) (8 : Int) = F95 (n5) (8 : Int) from by rw [eF99]; exact uF_j (by decide)).trans ((show F95 (n5) (8 : Int) = F92 (n5) (8 : Int) from by rw [eF95]; exact uF_j (by decide)).trans ((show F92 (n5) (8 : Int) = F48 (n5) (8 : Int) from by rw [eF92]; exact uF_j (by decide)).trans ((show F48 (n5) (8 : Int) = F33 (n5) (8 : Int) from hM52 _ _ ho5.1 (own_z ho5.1) (by rw [ho5.2]; rfl)).trans ((show F33 (n5) (8 : Int) = F15 (n5) (8 : Int) from hM35 _ _ ho5.1 (own_z ho5.1) (by rw [ho5.2]; rfl)).trans (show F15 (n5) (8 : Int) = 0 from zp19 _ (by decide) (by decide))))))) (Or.inr (by rw [show F99 (n5) (4 : Int) = r49 from (show F99 (n5) (4 : Int) = r49 from by rw [eF99]; exact uF_e)]; exact ⟨((show F99 (r49) (103 : Int) = F95 (r49) (103 : Int) from by rw [eF99]; exact uF_j (by decide)).trans (show F95 (r49) (103 : Int) = 1 from by rw [eF95]; exact uF_e)), (by rw [show F99 (r49) (100 : Int) = 17 - 2 * F me (3 : Int) from ((show F99 (r49) (100 : Int) = F95 (r49) (100 : Int) from by rw [eF99]; exact uF_j (by decide)).trans ((show F95 (r49) (100 : Int) = F92 (r49) (100 : Int) from by rw [eF95]; exact uF_j (by decide)).trans (show F92 (r49) (100 : Int) = 17 - 2 * F me (3 : Int) from by rw [eF92]; exact uF_e)))]; omega), (by rw [show F99 (r49) (100 : Int) = 17 - 2 * F me (3 : Int) from ((show F99 (r49) (100 : Int) = F95 (r49) (100 : Int) from by rw [eF99]; exact uF_j (by decide)).trans ((show F95 (r49) (100 : Int) = F92 (r49) (100 : Int) from by rw [eF95]; exact uF_j (by decide)).trans (show F92 (r49) (100 : Int) = 17 - 2 * F me (3 : Int) from by rw [eF92]; exact uF_e)))]; omega)⟩)) (Or.inl ((show F99 (n5) (5 : Int) = F95 (n5) (5 : Int) from by rw [eF99]; exact uF_j (by decide)).trans ((show F95 (n5) (5 : Int) = F92 (n5) (5 : Int) from by rw [eF95]; exact uF_j (by decide)).trans ((show F92 (n5) (5 : Int) = F48 (n5) (5 : Int) from by rw [eF92]; exact uF_j (by decide)).trans ((show F48 (n5) (5 : Int) = F33 (n5) (5 : Int) from hM52 _ _ ho5.1 (own_z ho5.1) (by rw [ho5.2]; rfl)).trans ((show F33 (n5) (5 : Int) = F15 (n5) (5 : Int) from hM35 _ _ ho5.1 (own_z ho5.1) (by rw [ho5.2]; rfl)).trans (show F15 (n5) (5 : Int) = 0 from zp19 _ (by decide) (by decide)))))))) (Or.inl ((show F99 (n5) (6 : Int) = F95 (n5) (6 : Int) from by rw [eF99]; exact uF_j (by decide)).trans ((show F95 (n5) (6 : Int) = F92 (n5) (6 : Int) from by rw [eF95]; exact uF_j (by decide)).trans ((show F92 (n5) (6 : Int) = F48 (n5) (6 : Int) from by rw [eF92]; exact uF_j (by decide)).trans ((show F48 (n5) (6 : Int) = F33 (n5) (6 : Int) from hM52 _ _ ho5.1 (own_z ho5.1) (by rw [ho5.2]; rfl)).trans ((show F33 (n5) (6 : Int) = F15 (n5) (6 : Int) from hM35 _ _ ho5.1 (own_z ho5.1) (by rw [ho5.2]; rfl)).trans (show F15 (n5) (6 : Int) = 0 from zp19 _ (by decide) (by decide)))))))) (Or.inl ((show F99 (n5) (7 : Int) = F95 (n5) (7 : Int) from by rw [eF99]; exact uF_j (by decide)).trans ((show F95 (n5) (7 : Int) = F92 (n5) (7 : Int) from by rw [eF95]; exact uF_j (by decide)).trans ((show F92 (n5) (7 : Int) = F48 (n5) (7 : Int) from by rw [eF92]; exact uF_j (by decide)).trans ((show F48 (n5) (7 : Int) = F33 (n5) (7 : Int) from hM52 _ _ ho5.1 (own_z ho5.1) (by rw [ho5.2]; rfl)).trans ((show F33 (n5) (7 : Int) = F15 (n5) (7 : Int) from hM35 _ _ ho5.1 (own_z ho5.1) (by rw [ho5.2]; rfl)).trans (show F15 (n5) (7 : Int) = 0 from zp19 _ (by decide) (by decide)))))))) (Or.inl (by rw [show F99 (n5) (0 : Int) = F15 (n5) (0 : Int) from ((show F99 (n5) (0 : Int) = F95 (n5) (0 : Int) from by rw [eF99]; exact uF_j (by decide)).trans ((show F95 (n5) (0 : Int) = F92 (n5) (0 : Int) from by rw [eF95]; exact uF_j (by decide)).trans ((show F92 (n5) (0 : Int) = F48 (n5) (0 : Int) from by rw [eF92]; exact uF_j (by decide)).trans ((show F48 (n5) (0 : Int) = F33 (n5) (0 : Int) from hM52 _ _ ho5.1 (own_z ho5.1) (by rw [ho5.2]; rfl)).trans (show F33 (n5) (0 : Int) = F15 (n5) (0 : Int) from hM35 _ _ ho5.1 (own_z ho5.1) (by rw [ho5.2]; rfl))))))]; omega))), by omega, by omega, c102, c88, trivial⟩
    · have _q := h13
      have t117 : tz (F (sc) (15 : Int)) = 1 := tz_p (by omega)
      refine jx_ar (pc_q := 42) (st_q := [.int (i32 (24)), rv (n5), rv (n5)]) rfl rfl rfl rfl ?_
      refine jx_go (tg := 47) rfl rfl ?_
      refine jx_ld (pc_q := 48) (l_q := L0) (st_q := [rv (me), .int (i32 (24)), rv (n5), rv (n5)]) rfl (jl_rvn g1) ?_
      refine cx_gr (pc_q := 51) (c := 8) (q := 1) (v := sc) rfl rfl (by decide) (by decide) rfl rfl ho7.1 ho7.2 ((show F5 (me) (1 : Int) = F (me) (1 : Int) from hf5 _ _ (ne_n o_me en5)).trans e_sc) ?_
      refine cx_gi (pc_q := 54) (c := 10) (q := 13) (v := F (sc) (13 : Int)) rfl rfl (by decide) (by decide) (Or.inl rfl) rfl ho8.1 ho8.2 (show F5 (sc) (13 : Int) = F (sc) (13 : Int) from hf5 _ _ (ne_n o_sc en5)) ?_
      have b118 : (-2147483648 : Int) ≤ F (sc) (13 : Int) ∧ F (sc) (13 : Int) ≤ 2147483647 := by have z := HC_i (c := 10) (q := 13) hC5 ho8.1 ho8.2 (by decide) rfl; rw [show F5 (sc) ((13 : Nat) : Int) = F (sc) (13 : Int) from (show F5 (sc) (13 : Int) = F (sc) (13 : Int) from hf5 _ _ (ne_n o_sc en5))] at z; exact z
      refine cx_sp (kd := 2) (a := n5) (st := [rv (n5)]) (as := [.int (i32 (24)), .int (i32 (F (sc) (13 : Int)))]) rfl rfl (by decide) rfl ho5.1.1 ⟨rfl, (by rw [jS_r, jS_0]; exact Nat.le_of_ble_eq_true rfl)⟩ rfl (k_LNode_init (dd := d) (R := R) (m := m5) (tg := tg5) (ln := ln5) (F := F5) (me := n5) (kd := 24) (l := F (sc) (13 : Int)) (hd := by omega) (hC := hC5) (o_me := ho5.1) (t_me := ho5.2) (h_kd := by omega) (h_l := by omega) (z_me := h05)) (fun o V_q hq => ?_)
      obtain ⟨F119, rfl, rfl, hC120, hM121, p122, zp123, -⟩ := hq
      have hM124 : Fq 0 [(9, 3), (10, 0), (10, 1), (10, 2), (10, 9), (11, 8), (11, 12), (11, 13), (11, 14), (11, 15), (11, 16), (11, 17), (11, 18)] m tg F F119 := Fq_t (ln := ln) (ln1 := ln5) hM11 hX10 hM121 (by decide) (Or.inr (Or.inr ex5))
      have c125 : NP m5 tg5 F119 := NP_nn hC c_NP hx5 en5 em5 (fun b i ob => (hM121 b i (own_m ob hx5.1) (ne_n ob en5) rfl).trans (hf5 b i (ne_n ob en5))) (fun _ => (zp123 _ (by decide) (by decide))) (fun w => absurd (ho5.2.symm.trans w) (by decide)) (fun w => absurd (ho5.2.symm.trans w) (by decide))
      refine Or.inl ⟨rfl, ?_⟩
      refine jx_ld (pc_q := 58) (l_q := jSto1 L0 1 (rv (n5))) (st_q := []) rfl (js_rvn (by decide)) ?_
      obtain ⟨L126, eL126⟩ : ∃ q : jL, q = jSto1 L0 1 (rv (n5)) := ⟨_, rfl⟩
      rw [← eL126]
      have g127 : jGet L126 0 = some (rv (me)) := eL126 ▸ jg_nr (by decide) g1
      have g128 : jGet L126 1 = some (rv (n5)) := eL126 ▸ jg_eq
      clear eL126
      refine jx_ld (pc_q := 59) (l_q := L126) (st_q := [rv (me)]) rfl (jl_rvn g127) ?_
      refine cx_gr (pc_q := 62) (c := 8) (q := 1) (v := sc) rfl rfl (by decide) (by decide) rfl rfl ho7.1 ho7.2 (((show F119 (me) (1 : Int) = F5 (me) (1 : Int) from hM121 _ _ ho7.1 (fun w => by have q1 := ho7.2; rw [w, ho5.2] at q1; exact absurd q1 (by decide)) (by rw [ho7.2]; rfl)).trans (show F5 (me) (1 : Int) = F (me) (1 : Int) from hf5 _ _ (ne_n o_me en5))).trans e_sc) ?_
      have q129 : F119 (sc) (8 : Int) = F (sc) (8 : Int) := ((show F119 (sc) (8 : Int) = F5 (sc) (8 : Int) from hM121 _ _ ho8.1 (fun w => by have q1 := ho8.2; rw [w, ho5.2] at q1; exact absurd q1 (by decide)) (by rw [ho8.2]; rfl)).trans (show F5 (sc) (8 : Int) = F (sc) (8 : Int) from hf5 _ _ (ne_n o_sc en5)))
      have q130 : F119 (sc) (15 : Int) = F (sc) (15 : Int) := ((show F119 (sc) (15 : Int) = F5 (sc) (15 : Int) from hM121 _ _ ho8.1 (fun w => by have q1 := ho8.2; rw [w, ho5.2] at q1; exact absurd q1 (by decide)) (by rw [ho8.2]; rfl)).trans (show F5 (sc) (15 : Int) = F (sc) (15 : Int) from hf5 _ _ (ne_n o_sc en5)))
      have q131 : tz (F119 (sc) (15 : Int)) = tz (F (sc) (15 : Int)) := by rw [q130]
      have q132 := tz_b (F (sc) (15 : Int))
      have q133 : F119 (sc) (7 : Int) = F (sc) (7 : Int) := ((show F119 (sc) (7 : Int) = F5 (sc) (7 : Int) from hM121 _ _ ho8.1 (fun w => by have q1 := ho8.2; rw [w, ho5.2] at q1; exact absurd q1 (by decide)) (by rw [ho8.2]; rfl)).trans (show F5 (sc) (7 : Int) = F (sc) (7 : Int) from hf5 _ _ (ne_n o_sc en5)))
      have q134 : F119 (sc) (14 : Int) = F (sc) (14 : Int) := ((show F119 (sc) (14 : Int) = F5 (sc) (14 : Int) from hM121 _ _ ho8.1 (fun w => by have q1 := ho8.2; rw [w, ho5.2] at q1; exact absurd q1 (by decide)) (by rw [ho8.2]; rfl)).trans (show F5 (sc) (14 : Int) = F (sc) (14 : Int) from hf5 _ _ (ne_n o_sc en5)))
      have q135 : lz (F119 (sc) (14 : Int)) = lz (F (sc) (14 : Int)) := by rw [q134]
      have q136 := lz_b (F (sc) (14 : Int))
      refine cx_vi (c := 10) (a := sc) (st := []) (as := []) rfl rfl rfl ho8.1 ho8.2 (by decide) rfl ⟨rfl, rfl, (Nat.le_of_ble_eq_true rfl)⟩ rfl (k_LScanner_next (dd := d) (R := R) (m := m5) (tg := tg5) (ln := ln5) (F := F119) (me := sc) (hd := by omega) (hC := hC120) (o_me := ho8.1) (t_me := ho8.2) (p_0 := by omega) (p_1 := by omega)) (fun o V_q hq => ?_)
      obtain ⟨F137, rfl, rfl, hC138, hM139, p140, p141, p142, -⟩ := hq
      have hM143 : Fq 0 [(9, 3), (10, 0), (10, 1), (10, 2), (10, 9), (11, 8), (11, 12), (11, 13), (11, 14), (11, 15), (11, 16), (11, 17), (11, 18)] m tg F F137 := Fq_t (ln := ln) (ln1 := ln5) hM124 hX10 hM139 (by decide) (Or.inl rfl)
      have c144 : NP m5 tg5 F137 := NP_q hC120 c125 hM139 rfl rfl
      refine Or.inl ⟨rfl, ?_⟩
      refine jx_ld (pc_q := 66) (l_q := L126) (st_q := [rv (n5)]) rfl (jl_rvn g128) ?_
      refine jx_ld (pc_q := 67) (l_q := L126) (st_q := [rv (me), rv (n5)]) rfl (jl_rvn g127) ?_
      have b145 : (0 : Int) ≤ F (me) (3 : Int) ∧ F (me) (3 : Int) ≤ 8 := by have z := HC_i (c := 8) (q := 3) hC138 ho7.1 ho7.2 (by decide) rfl; rw [show F137 (me) ((3 : Nat) : Int) = F (me) (3 : Int) from ((show F137 (me) (3 : Int) = F119 (me) (3 : Int) from hM139 _ _ ho7.1 (own_z ho7.1) (by rw [ho7.2]; rfl)).trans ((show F119 (me) (3 : Int) = F5 (me) (3 : Int) from hM121 _ _ ho7.1 (fun w => by have q1 := ho7.2; rw [w, ho5.2] at q1; exact absurd q1 (by decide)) (by rw [ho7.2]; rfl)).trans (show F5 (me) (3 : Int) = F (me) (3 : Int) from hf5 _ _ (ne_n o_me en5))))] at z; exact z
      have q146 := tz_b (F137 (sc) (15 : Int))
      have q147 : F137 (sc) (7 : Int) = F (sc) (7 : Int) := ((show F137 (sc) (7 : Int) = F119 (sc) (7 : Int) from hM139 _ _ ho8.1 (own_z ho8.1) (by rw [ho8.2]; rfl)).trans ((show F119 (sc) (7 : Int) = F5 (sc) (7 : Int) from hM121 _ _ ho8.1 (fun w => by have q1 := ho8.2; rw [w, ho5.2] at q1; exact absurd q1 (by decide)) (by rw [ho8.2]; rfl)).trans (show F5 (sc) (7 : Int) = F (sc) (7 : Int) from hf5 _ _ (ne_n o_sc en5))))
      have q148 := lz_b (F137 (sc) (14 : Int))
      have q149 : F137 (me) (3 : Int) = F (me) (3 : Int) := ((show F137 (me) (3 : Int) = F119 (me) (3 : Int) from hM139 _ _ ho7.1 (own_z ho7.1) (by rw [ho7.2]; rfl)).trans ((show F119 (me) (3 : Int) = F5 (me) (3 : Int) from hM121 _ _ ho7.1 (fun w => by have q1 := ho7.2; rw [w, ho5.2] at q1; exact absurd q1 (by decide)) (by rw [ho7.2]; rfl)).trans (show F5 (me) (3 : Int) = F (me) (3 : Int) from hf5 _ _ (ne_n o_me en5))))
      have q150 : F137 (pg) (9 : Int) = F (pg) (9 : Int) := ((show F137 (pg) (9 : Int) = F119 (pg) (9 : Int) from hM139 _ _ ho9.1 (own_z ho9.1) (by rw [ho9.2]; rfl)).trans ((show F119 (pg) (9 : Int) = F5 (pg) (9 : Int) from hM121 _ _ ho9.1 (fun w => by have q1 := ho9.2; rw [w, ho5.2] at q1; exact absurd q1 (by decide)) (by rw [ho9.2]; rfl)).trans (show F5 (pg) (9 : Int) = F (pg) (9 : Int) from hf5 _ _ (ne_n o_pg en5))))
      refine cx_vi (c := 8) (a := me) (st := [rv (n5)]) (as := []) rfl rfl rfl ho7.1 ho7.2 (by decide) rfl ⟨rfl, rfl, (by rw [jS_r, jS_0]; exact Nat.le_of_ble_eq_true rfl)⟩ rfl (k_LParser_operand (dd := d) (R := R) (m := m5) (tg := tg5) (ln := ln5) (F := F137) (kk := kk) (hE := hE) (me := me) (hd := by omega) (hC := hC138) (o_me := ho7.1) (t_me := ho7.2) (sc := sc) (pg := pg) (o_sc := ho8.1) (t_sc := ho8.2) (e_sc := (((show F137 (me) (1 : Int) = F119 (me) (1 : Int) from hM139 _ _ ho7.1 (own_z ho7.1) (by rw [ho7.2]; rfl)).trans ((show F119 (me) (1 : Int) = F5 (me) (1 : Int) from hM121 _ _ ho7.1 (fun w => by have q1 := ho7.2; rw [w, ho5.2] at q1; exact absurd q1 (by decide)) (by rw [ho7.2]; rfl)).trans (show F5 (me) (1 : Int) = F (me) (1 : Int) from hf5 _ _ (ne_n o_me en5)))).trans e_sc)) (o_pg := ho9.1) (t_pg := ho9.2) (e_pg := (((show F137 (me) (0 : Int) = F119 (me) (0 : Int) from hM139 _ _ ho7.1 (own_z ho7.1) (by rw [ho7.2]; rfl)).trans ((show F119 (me) (0 : Int) = F5 (me) (0 : Int) from hM121 _ _ ho7.1 (fun w => by have q1 := ho7.2; rw [w, ho5.2] at q1; exact absurd q1 (by decide)) (by rw [ho7.2]; rfl)).trans (show F5 (me) (0 : Int) = F (me) (0 : Int) from hf5 _ _ (ne_n o_me en5)))).trans e_pg)) (p_0 := by omega) (p_1 := by omega) (p_2 := by omega) (p_3 := by omega) (c_NP := c144)) (fun o V_q hq => ?_)
      obtain ⟨m151, tg151, ln151, F152, r153, rfl, rfl, hx154, hC155, hM156, b157, p158, p159, p160, p161, p162, p163, p164, p165, p166, p167, p168, c169, c170, -⟩ | ⟨m171, tg171, ln171, F171, x171, rfl, rfl, hx171, hC171, hM171, ho171, ht171, p172, p173, p174, p175, c176, c177, -⟩ := hq
      rotate_left
      ·
        have c178 : NM m m171 tg171 := NM_t c12 hx171 c177
        have lm179 := hx171.1
        refine Or.inr (Or.inr (Or.inr ⟨_, _, rfl, cx_exc (c := 15) ho171 ht171 (by decide), rfl, ?_⟩))
        have q180 : F137 (sc) (7 : Int) = F (sc) (7 : Int) := ((show F137 (sc) (7 : Int) = F119 (sc) (7 : Int) from hM139 _ _ ho8.1 (own_z ho8.1) (by rw [ho8.2]; rfl)).trans ((show F119 (sc) (7 : Int) = F5 (sc) (7 : Int) from hM121 _ _ ho8.1 (fun w => by have q1 := ho8.2; rw [w, ho5.2] at q1; exact absurd q1 (by decide)) (by rw [ho8.2]; rfl)).trans (show F5 (sc) (7 : Int) = F (sc) (7 : Int) from hf5 _ _ (ne_n o_sc en5))))
        exact Or.inr ⟨m171, tg171, ln171, F171, x171, rfl, rfl, Ex_t hX10 hx171, hC171, Fq_t (ln := ln) (ln1 := ln5) hM143 hX10 hM171 (by decide) (Or.inl rfl), (And.intro ho171 ht171).1, (And.intro ho171 ht171).2, by omega, by omega, by omega, by omega, c176, c178, trivial⟩
      have hM181 : Fq 0 [(9, 3), (10, 0), (10, 1), (10, 2), (10, 9), (11, 8), (11, 12), (11, 13), (11, 14), (11, 15), (11, 16), (11, 17), (11, 18)] m tg F F152 := Fq_t (ln := ln) (ln1 := ln5) hM143 hX10 hM156 (by decide) (Or.inl rfl)
      have lm182 := hx154.1
      have lt183 : n5 < 64 + (m5 : Int) := ho5.1.2.1
      have ho184 : own m151 (me) ∧ tg151 (me) = 9 := Ex_o hx154 ⟨ho7.1, ho7.2⟩
      have ho185 : own m151 (n5) ∧ tg151 (n5) = 8 := Ex_o hx154 ⟨ho5.1, ho5.2⟩
      have ho186 : own m151 (sc) ∧ tg151 (sc) = 11 := Ex_o hx154 ⟨ho8.1, ho8.2⟩
      have ho187 : own m151 (pg) ∧ tg151 (pg) = 10 := Ex_o hx154 ⟨ho9.1, ho9.2⟩
      have hX188 := Ex_t hX10 hx154
      have q189 := p166.1
      have q190 := p166.2.1
      have q191 := p166.2.2.1
      have c192 : NM m m151 tg151 := NM_t c12 hx154 c170
      refine Or.inr (Or.inl ⟨_, rfl, ?_⟩)
      have q193 := p166.1
      have q194 := p166.2.1
      have q195 := p166.2.2.1
      rw [← cV_gh (F := F152) (a := r153) (j := 100) (z := 17 - 2 * F me (3 : Int)) (Or.inr ⟨by decide, by rw [b157.2]; decide⟩)]
      obtain ⟨F196, eF196⟩ : ∃ q, q = uF F152 (r153) (100 : Int) (17 - 2 * F me (3 : Int)) := ⟨_, rfl⟩
      rw [← eF196]
      have hC197 : HC 0 m151 tg151 ln151 F196 := by rw [eF196]; exact HC_gh hC155 (by rw [b157.2]; decide) (by decide)
      have hM198 : Fq 0 [(9, 3), (10, 0), (10, 1), (10, 2), (10, 9), (11, 8), (11, 12), (11, 13), (11, 14), (11, 15), (11, 16), (11, 17), (11, 18)] m tg F F196 := by rw [eF196]; exact Fq_x hM181 (Or.inr (by have := hX188.1; omega))
      rw [← cV_gh (F := F196) (a := r153) (j := 103) (z := 1) (Or.inr ⟨by decide, by rw [b157.2]; decide⟩)]
      obtain ⟨F199, eF199⟩ : ∃ q, q = uF F196 (r153) (103 : Int) (1) := ⟨_, rfl⟩
      rw [← eF199]
      have hC200 : HC 0 m151 tg151 ln151 F199 := by rw [eF199]; exact HC_gh hC197 (by rw [b157.2]; decide) (by decide)
      have hM201 : Fq 0 [(9, 3), (10, 0), (10, 1), (10, 2), (10, 9), (11, 8), (11, 12), (11, 13), (11, 14), (11, 15), (11, 16), (11, 17), (11, 18)] m tg F F199 := by rw [eF199]; exact Fq_x hM198 (Or.inr (by have := hX188.1; omega))
      have c202 : NP m151 tg151 F199 := by rw [eF199, eF196]; exact NP_seal hC155 c169 b157.1 b157.2 p166 (by omega)
      refine cx_po (pc_q := 73) (c := 7) (q := 4) (qi := (4 : Int)) (z := r153) rfl rfl (by decide) (by decide) rfl rfl rfl (by decide) rfl ho185.1 ho185.2 rfl ?_
      obtain ⟨F203, eF203⟩ : ∃ q, q = uF F199 (n5) (4 : Int) (r153) := ⟨_, rfl⟩
      rw [← eF203]
      have hC204 : HC 0 m151 tg151 ln151 F203 := by rw [eF203]; exact HC_fr (c := 7) (q := 4) (by decide) hC200 ho185.2 (by decide) rfl (Or.inr ⟨b157.1, b157.2⟩) ⟨fun w => absurd w (by decide), fun w => absurd w (by decide)⟩
      have hM205 : Fq 0 [(9, 3), (10, 0), (10, 1), (10, 2), (10, 9), (11, 8), (11, 12), (11, 13), (11, 14), (11, 15), (11, 16), (11, 17), (11, 18)] m tg F F203 := by rw [eF203]; exact Fq_x hM201 (Or.inr ex5)
      have c206 : NP m151 tg151 F203 := by rw [eF203]; exact NP_un hC200 c202 ho185.1 ho185.2 ((show F199 (n5) (103 : Int) = F196 (n5) (103 : Int) from by rw [eF199]; exact uF_a (by omega)).trans ((show F196 (n5) (103 : Int) = F152 (n5) (103 : Int) from by rw [eF196]; exact uF_j (by decide)).trans ((show F152 (n5) (103 : Int) = F137 (n5) (103 : Int) from hM156 _ _ ho5.1 (own_z ho5.1) (by rw [ho5.2]; rfl)).trans ((show F137 (n5) (103 : Int) = F119 (n5) (103 : Int) from hM139 _ _ ho5.1 (own_z ho5.1) (by rw [ho5.2]; rfl)).trans (show F119 (n5) (103 : Int) = 0 from zp123 _ (by decide) (by decide)))))) (by decide) (Or.inl (by decide))
      refine jx_ld (pc_q := 74) (l_q := L126) (st_q := [rv (n5)]) rfl (jl_rvn g128) ?_
      refine jx_rt (v := some (rv (n5))) rfl rfl rfl rfl rfl jr_are ?_
      have q207 : F203 (sc) (7 : Int) = F (sc) (7 : Int) := ((show F203 (sc) (7 : Int) = F199 (sc) (7 : Int) from by rw [eF203]; exact uF_j (by decide)).trans ((show F199 (sc) (7 : Int) = F196 (sc) (7 : Int) from by rw [eF199]; exact uF_j (by decide)).trans ((show F196 (sc) (7 : Int) = F152 (sc) (7 : Int) from by rw [eF196]; exact uF_j (by decide)).trans ((show F152 (sc) (7 : Int) = F137 (sc) (7 : Int) from hM156 _ _ ho8.1 (own_z ho8.1) (by rw [ho8.2]; rfl)).trans ((show F137 (sc) (7 : Int) = F119 (sc) (7 : Int) from hM139 _ _ ho8.1 (own_z ho8.1) (by rw [ho8.2]; rfl)).trans ((show F119 (sc) (7 : Int) = F5 (sc) (7 : Int) from hM121 _ _ ho8.1 (fun w => by have q1 := ho8.2; rw [w, ho5.2] at q1; exact absurd q1 (by decide)) (by rw [ho8.2]; rfl)).trans (show F5 (sc) (7 : Int) = F (sc) (7 : Int) from hf5 _ _ (ne_n o_sc en5))))))))
      have q208 : F203 (sc) (8 : Int) = F152 (sc) (8 : Int) := ((show F203 (sc) (8 : Int) = F199 (sc) (8 : Int) from by rw [eF203]; exact uF_j (by decide)).trans ((show F199 (sc) (8 : Int) = F196 (sc) (8 : Int) from by rw [eF199]; exact uF_j (by decide)).trans (show F196 (sc) (8 : Int) = F152 (sc) (8 : Int) from by rw [eF196]; exact uF_j (by decide))))
      have q209 : F203 (pg) (9 : Int) = F152 (pg) (9 : Int) := ((show F203 (pg) (9 : Int) = F199 (pg) (9 : Int) from by rw [eF203]; exact uF_j (by decide)).trans ((show F199 (pg) (9 : Int) = F196 (pg) (9 : Int) from by rw [eF199]; exact uF_j (by decide)).trans (show F196 (pg) (9 : Int) = F152 (pg) (9 : Int) from by rw [eF196]; exact uF_j (by decide))))
      have q210 : F203 (me) (3 : Int) = F152 (me) (3 : Int) := ((show F203 (me) (3 : Int) = F199 (me) (3 : Int) from by rw [eF203]; exact uF_j (by decide)).trans ((show F199 (me) (3 : Int) = F196 (me) (3 : Int) from by rw [eF199]; exact uF_j (by decide)).trans (show F196 (me) (3 : Int) = F152 (me) (3 : Int) from by rw [eF196]; exact uF_j (by decide))))
      have q211 : F203 (sc) (8 : Int) = F152 (sc) (8 : Int) := ((show F203 (sc) (8 : Int) = F199 (sc) (8 : Int) from by rw [eF203]; exact uF_j (by decide)).trans ((show F199 (sc) (8 : Int) = F196 (sc) (8 : Int) from by rw [eF199]; exact uF_j (by decide)).trans (show F196 (sc) (8 : Int) = F152 (sc) (8 : Int) from by rw [eF196]; exact uF_j (by decide))))
      have q212 : F203 (sc) (15 : Int) = F152 (sc) (15 : Int) := ((show F203 (sc) (15 : Int) = F199 (sc) (15 : Int) from by rw [eF203]; exact uF_j (by decide)).trans ((show F199 (sc) (15 : Int) = F196 (sc) (15 : Int) from by rw [eF199]; exact uF_j (by decide)).trans (show F196 (sc) (15 : Int) = F152 (sc) (15 : Int) from by rw [eF196]; exact uF_j (by decide))))
      have q213 : tz (F203 (sc) (15 : Int)) = tz (F152 (sc) (15 : Int)) := by rw [q212]
      have q214 := tz_b (F152 (sc) (15 : Int))
      have q215 : F203 (sc) (14 : Int) = F152 (sc) (14 : Int) := ((show F203 (sc) (14 : Int) = F199 (sc) (14 : Int) from by rw [eF203]; exact uF_j (by decide)).trans ((show F199 (sc) (14 : Int) = F196 (sc) (14 : Int) from by rw [eF199]; exact uF_j (by decide)).trans (show F196 (sc) (14 : Int) = F152 (sc) (14 : Int) from by rw [eF196]; exact uF_j (by decide))))
      have q216 : lz (F203 (sc) (14 : Int)) = lz (F152 (sc) (14 : Int)) := by rw [q215]
      have q217 := lz_b (F152 (sc) (14 : Int))
      have q218 : F203 (pg) (9 : Int) = F152 (pg) (9 : Int) := ((show F203 (pg) (9 : Int) = F199 (pg) (9 : Int) from by rw [eF203]; exact uF_j (by decide)).trans ((show F199 (pg) (9 : Int) = F196 (pg) (9 : Int) from by rw [eF199]; exact uF_j (by decide)).trans (show F196 (pg) (9 : Int) = F152 (pg) (9 : Int) from by rw [eF196]; exact uF_j (by decide))))
      have q219 : F203 (n5) (0 : Int) = F119 (n5) (0 : Int) := ((show F203 (n5) (0 : Int) = F199 (n5) (0 : Int) from by rw [eF203]; exact uF_j (by decide)).trans ((show F199 (n5) (0 : Int) = F196 (n5) (0 : Int) from by rw [eF199]; exact uF_j (by decide)).trans ((show F196 (n5) (0 : Int) = F152 (n5) (0 : Int) from by rw [eF196]; exact uF_j (by decide)).trans ((show F152 (n5) (0 : Int) = F137 (n5) (0 : Int) from hM156 _ _ ho5.1 (own_z ho5.1) (by rw [ho5.2]; rfl)).trans (show F137 (n5) (0 : Int) = F119 (n5) (0 : Int) from hM139 _ _ ho5.1 (own_z ho5.1) (by rw [ho5.2]; rfl))))))
      have q220 : F203 (me) (3 : Int) = F152 (me) (3 : Int) := ((show F203 (me) (3 : Int) = F199 (me) (3 : Int) from by rw [eF203]; exact uF_j (by decide)).trans ((show F199 (me) (3 : Int) = F196 (me) (3 : Int) from by rw [eF199]; exact uF_j (by decide)).trans (show F196 (me) (3 : Int) = F152 (me) (3 : Int) from by rw [eF196]; exact uF_j (by decide))))
      exact Or.inl ⟨m151, tg151, ln151, F203, (n5), rfl, rfl, hX188, hC204, hM205, ⟨ho185.1, ho185.2⟩, by omega, by omega, by omega, by omega, by omega, by omega, by omega, by omega, (WK_i (K := 18 - 2 * F me (3 : Int)) ((show F203 (n5) (103 : Int) = F199 (n5) (103 : Int) from by rw [eF203]; exact uF_j (by decide)).trans ((show F199 (n5) (103 : Int) = F196 (n5) (103 : Int) from by rw [eF199]; exact uF_a (by omega)).trans ((show F196 (n5) (103 : Int) = F152 (n5) (103 : Int) from by rw [eF196]; exact uF_j (by decide)).trans ((show F152 (n5) (103 : Int) = F137 (n5) (103 : Int) from hM156 _ _ ho5.1 (own_z ho5.1) (by rw [ho5.2]; rfl)).trans ((show F137 (n5) (103 : Int) = F119 (n5) (103 : Int) from hM139 _ _ ho5.1 (own_z ho5.1) (by rw [ho5.2]; rfl)).trans (show F119 (n5) (103 : Int) = 0 from zp123 _ (by decide) (by decide))))))) ((show F203 (n5) (101 : Int) = F199 (n5) (101 : Int) from by rw [eF203]; exact uF_j (by decide)).trans ((show F199 (n5) (101 : Int) = F196 (n5) (101 : Int) from by rw [eF199]; exact uF_j (by decide)).trans ((show F196 (n5) (101 : Int) = F152 (n5) (101 : Int) from by rw [eF196]; exact uF_j (by decide)).trans ((show F152 (n5) (101 : Int) = F137 (n5) (101 : Int) from hM156 _ _ ho5.1 (own_z ho5.1) (by rw [ho5.2]; rfl)).trans ((show F137 (n5) (101 : Int) = F119 (n5) (101 : Int) from hM139 _ _ ho5.1 (own_z ho5.1) (by rw [ho5.2]; rfl)).trans (show F119 (n5) (101 : Int) = 0 from zp123 _ (by decide) (by decide))))))) ((show F203 (n5) (8 : Int) = F199 (n5) (8 : Int) from by rw [eF203]; exact uF_j (by decide)).trans ((show F199 (n5) (8 : Int) = F196 (n5) (8 : Int) from by rw [eF199]; exact uF_j (by decide)).trans ((show F196 (n5) (8 : Int) = F152 (n5) (8 : Int) from by rw [eF196]; exact uF_j (by decide)).trans ((show F152 (n5) (8 : Int) = F137 (n5) (8 : Int) from hM156 _ _ ho5.1 (own_z ho5.1) (by rw [ho5.2]; rfl)).trans ((show F137 (n5) (8 : Int) = F119 (n5) (8 : Int) from hM139 _ _ ho5.1 (own_z ho5.1) (by rw [ho5.2]; rfl)).trans (show F119 (n5) (8 : Int) = 0 from zp123 _ (by decide) (by decide))))))) (Or.inr (by rw [show F203 (n5) (4 : Int) = r153 from (show F203 (n5) (4 : Int) = r153 from by rw [eF203]; exact uF_e)]; exact ⟨((show F203 (r153) (103 : Int) = F199 (r153) (103 : Int) from by rw [eF203]; exact uF_j (by decide)).trans (show F199 (r153) (103 : Int) = 1 from by rw [eF199]; exact uF_e)), (by rw [show F203 (r153) (100 : Int) = 17 - 2 * F me (3 : Int) from ((show F203 (r153) (100 : Int) = F199 (r153) (100 : Int) from by rw [eF203]; exact uF_j (by decide)).trans ((show F199 (r153) (100 : Int) = F196 (r153) (100 : Int) from by rw [eF199]; exact uF_j (by decide)).trans (show F196 (r153) (100 : Int) = 17 - 2 * F me (3 : Int) from by rw [eF196]; exact uF_e)))]; omega), (by rw [show F203 (r153) (100 : Int) = 17 - 2 * F me (3 : Int) from ((show F203 (r153) (100 : Int) = F199 (r153) (100 : Int) from by rw [eF203]; exact uF_j (by decide)).trans ((show F199 (r153) (100 : Int) = F196 (r153) (100 : Int) from by rw [eF199]; exact uF_j (by decide)).trans (show F196 (r153) (100 : Int) = 17 - 2 * F me (3 : Int) from by rw [eF196]; exact uF_e)))]; omega)⟩)) (Or.inl ((show F203 (n5) (5 : Int) = F199 (n5) (5 : Int) from by rw [eF203]; exact uF_j (by decide)).trans ((show F199 (n5) (5 : Int) = F196 (n5) (5 : Int) from by rw [eF199]; exact uF_j (by decide)).trans ((show F196 (n5) (5 : Int) = F152 (n5) (5 : Int) from by rw [eF196]; exact uF_j (by decide)).trans ((show F152 (n5) (5 : Int) = F137 (n5) (5 : Int) from hM156 _ _ ho5.1 (own_z ho5.1) (by rw [ho5.2]; rfl)).trans ((show F137 (n5) (5 : Int) = F119 (n5) (5 : Int) from hM139 _ _ ho5.1 (own_z ho5.1) (by rw [ho5.2]; rfl)).trans (show F119 (n5) (5 : Int) = 0 from zp123 _ (by decide) (by decide)))))))) (Or.inl ((show F203 (n5) (6 : Int) = F199 (n5) (6 : Int) from by rw [eF203]; exact uF_j (by decide)).trans ((show F199 (n5) (6 : Int) = F196 (n5) (6 : Int) from by rw [eF199]; exact uF_j (by decide)).trans ((show F196 (n5) (6 : Int) = F152 (n5) (6 : Int) from by rw [eF196]; exact uF_j (by decide)).trans ((show F152 (n5) (6 : Int) = F137 (n5) (6 : Int) from hM156 _ _ ho5.1 (own_z ho5.1) (by rw [ho5.2]; rfl)).trans ((show F137 (n5) (6 : Int) = F119 (n5) (6 : Int) from hM139 _ _ ho5.1 (own_z ho5.1) (by rw [ho5.2]; rfl)).trans (show F119 (n5) (6 : Int) = 0 from zp123 _ (by decide) (by decide)))))))) (Or.inl ((show F203 (n5) (7 : Int) = F199 (n5) (7 : Int) from by rw [eF203]; exact uF_j (by decide)).trans ((show F199 (n5) (7 : Int) = F196 (n5) (7 : Int) from by rw [eF199]; exact uF_j (by decide)).trans ((show F196 (n5) (7 : Int) = F152 (n5) (7 : Int) from by rw [eF196]; exact uF_j (by decide)).trans ((show F152 (n5) (7 : Int) = F137 (n5) (7 : Int) from hM156 _ _ ho5.1 (own_z ho5.1) (by rw [ho5.2]; rfl)).trans ((show F137 (n5) (7 : Int) = F119 (n5) (7 : Int) from hM139 _ _ ho5.1 (own_z ho5.1) (by rw [ho5.2]; rfl)).trans (show F119 (n5) (7 : Int) = 0 from zp123 _ (by decide) (by decide)))))))) (Or.inl (by rw [show F203 (n5) (0 : Int) = F119 (n5) (0 : Int) from ((show F203 (n5) (0 : Int) = F199 (n5) (0 : Int) from by rw [eF203]; exact uF_j (by decide)).trans ((show F199 (n5) (0 : Int) = F196 (n5) (0 : Int) from by rw [eF199]; exact uF_j (by decide)).trans ((show F196 (n5) (0 : Int) = F152 (n5) (0 : Int) from by rw [eF196]; exact uF_j (by decide)).trans ((show F152 (n5) (0 : Int) = F137 (n5) (0 : Int) from hM156 _ _ ho5.1 (own_z ho5.1) (by rw [ho5.2]; rfl)).trans (show F137 (n5) (0 : Int) = F119 (n5) (0 : Int) from hM139 _ _ ho5.1 (own_z ho5.1) (by rw [ho5.2]; rfl))))))]; omega))), by omega, by omega, c206, c192, trivial⟩
  · have _q := h3
    refine jx_ld (pc_q := 13) (l_q := L0) (st_q := [rv (me)]) rfl (jl_rvn g1) ?_
    refine cx_gr (pc_q := 16) (c := 8) (q := 1) (v := sc) rfl rfl (by decide) (by decide) rfl rfl o_me t_me e_sc ?_
    refine cx_gi (pc_q := 19) (c := 10) (q := 15) (v := F (sc) (15 : Int)) rfl rfl (by decide) (by decide) (Or.inl rfl) rfl o_sc t_sc rfl ?_
    refine jx_ar (pc_q := 21) (st_q := [.int (i32 (25)), .int (i32 (F (sc) (15 : Int)))]) rfl rfl rfl rfl ?_
    refine jx_icmp_ne (pc_q := 24) (tg := 75) rfl rfl rfl (by omega) (by omega) (by decide) (by decide) (fun h221 => ?_) (fun h221 => ?_)
    · have _q := h221
      refine jx_ld (pc_q := 76) (l_q := L0) (st_q := [rv (me)]) rfl (jl_rvn g1) ?_
      refine jx_ld (pc_q := 77) (l_q := L0) (st_q := [rv (me), rv (me)]) rfl (jl_rvn g1) ?_
      have b222 : (0 : Int) ≤ F (me) (3 : Int) ∧ F (me) (3 : Int) ≤ 8 := by have z := HC_i (c := 8) (q := 3) hC o_me t_me (by decide) rfl; exact z
      have q223 := tz_b (F (sc) (15 : Int))
      have q224 := lz_b (F (sc) (14 : Int))
      refine cx_vi (c := 8) (a := me) (st := [rv (me)]) (as := []) rfl rfl rfl o_me t_me (by decide) rfl ⟨rfl, rfl, (by rw [jS_r, jS_0]; exact Nat.le_of_ble_eq_true rfl)⟩ rfl (k_LParser_operand (dd := d) (R := R) (m := m) (tg := tg) (ln := ln) (F := F) (kk := kk) (hE := hE) (me := me) (hd := by omega) (hC := hC) (o_me := o_me) (t_me := t_me) (sc := sc) (pg := pg) (o_sc := o_sc) (t_sc := t_sc) (e_sc := e_sc) (o_pg := o_pg) (t_pg := t_pg) (e_pg := e_pg) (p_0 := by omega) (p_1 := by omega) (p_2 := by omega) (p_3 := by omega) (c_NP := c_NP)) (fun o V_q hq => ?_)
      obtain ⟨m225, tg225, ln225, F226, r227, rfl, rfl, hx228, hC229, hM230, b231, p232, p233, p234, p235, p236, p237, p238, p239, p240, p241, p242, c243, c244, -⟩ | ⟨m245, tg245, ln245, F245, x245, rfl, rfl, hx245, hC245, hM245, ho245, ht245, p246, p247, p248, p249, c250, c251, -⟩ := hq
      rotate_left
      ·
        have c252 : NM m m245 tg245 := NM_t NM_0 hx245 c251
        have lm253 := hx245.1
        refine Or.inr (Or.inr (Or.inr ⟨_, _, rfl, cx_exc (c := 15) ho245 ht245 (by decide), rfl, ?_⟩))
        exact Or.inr ⟨m245, tg245, ln245, F245, x245, rfl, rfl, Ex_t hX0 hx245, hC245, Fq_t (ln := ln) (ln1 := ln) hM0 hX0 hM245 (by decide) (Or.inl rfl), (And.intro ho245 ht245).1, (And.intro ho245 ht245).2, by omega, by omega, by omega, by omega, c250, c252, trivial⟩
      have hM254 : Fq 0 [(9, 3), (10, 0), (10, 1), (10, 2), (10, 9), (11, 8), (11, 12), (11, 13), (11, 14), (11, 15), (11, 16), (11, 17), (11, 18)] m tg F F226 := Fq_t (ln := ln) (ln1 := ln) hM0 hX0 hM230 (by decide) (Or.inl rfl)
      have lm255 := hx228.1
      have ho256 : own m225 (me) ∧ tg225 (me) = 9 := Ex_o hx228 ⟨o_me, t_me⟩
      have ho257 : own m225 (sc) ∧ tg225 (sc) = 11 := Ex_o hx228 ⟨o_sc, t_sc⟩
      have ho258 : own m225 (pg) ∧ tg225 (pg) = 10 := Ex_o hx228 ⟨o_pg, t_pg⟩
      have hX259 := Ex_t hX0 hx228
      have q260 := p240.1
      have q261 := p240.2.1
      have q262 := p240.2.2.1
      have c263 : NM m m225 tg225 := NM_t NM_0 hx228 c244
      refine Or.inr (Or.inl ⟨_, rfl, ?_⟩)
      have b264 : (0 : Int) ≤ F226 (me) (3 : Int) ∧ F226 (me) (3 : Int) ≤ 8 := by have z := HC_i (c := 8) (q := 3) hC229 ho256.1 ho256.2 (by decide) rfl; exact z
      have q265 := tz_b (F226 (sc) (15 : Int))
      have q266 : F226 (sc) (7 : Int) = F (sc) (7 : Int) := (show F226 (sc) (7 : Int) = F (sc) (7 : Int) from hM230 _ _ o_sc (own_z o_sc) (by rw [t_sc]; rfl))
      have q267 := lz_b (F226 (sc) (14 : Int))
      refine cx_vi (c := 8) (a := me) (st := []) (as := [rv (r227)]) rfl rfl rfl ho256.1 ho256.2 (by decide) rfl ⟨rfl, rfl, (Nat.le_of_ble_eq_true rfl)⟩ rfl (k_LParser_operated (dd := d) (R := R) (m := m225) (tg := tg225) (ln := ln225) (F := F226) (kk := kk) (hE := hE) (me := me) (lf := r227) (hd := by omega) (hC := hC229) (o_me := ho256.1) (t_me := ho256.2) (o_lf := b231.1) (t_lf := b231.2) (sc := sc) (pg := pg) (o_sc := ho257.1) (t_sc := ho257.2) (e_sc := ((show F226 (me) (1 : Int) = F (me) (1 : Int) from hM230 _ _ o_me (own_z o_me) (by rw [t_me]; rfl)).trans e_sc)) (o_pg := ho258.1) (t_pg := ho258.2) (e_pg := ((show F226 (me) (0 : Int) = F (me) (0 : Int) from hM230 _ _ o_me (own_z o_me) (by rw [t_me]; rfl)).trans e_pg)) (p_0 := by omega) (p_1 := by omega) (p_2 := by omega) (p_3 := by omega) (p_4 := by omega) (wk_lf := (WK_m p240 (by omega))) (c_NP := c243)) (fun o V_q hq => ?_)
      obtain ⟨m268, tg268, ln268, F269, r270, rfl, rfl, hx271, hC272, hM273, b274, p275, p276, p277, p278, p279, p280, p281, p282, p283, p284, p285, c286, c287, -⟩ | ⟨m288, tg288, ln288, F288, x288, rfl, rfl, hx288, hC288, hM288, ho288, ht288, p289, p290, p291, p292, c293, c294, -⟩ := hq
      rotate_left
      ·
        have c295 : NM m m288 tg288 := NM_t c263 hx288 c294
        have lm296 := hx288.1
        refine Or.inr (Or.inr (Or.inr ⟨_, _, rfl, cx_exc (c := 15) ho288 ht288 (by decide), rfl, ?_⟩))
        have q297 : F226 (sc) (7 : Int) = F (sc) (7 : Int) := (show F226 (sc) (7 : Int) = F (sc) (7 : Int) from hM230 _ _ o_sc (own_z o_sc) (by rw [t_sc]; rfl))
        exact Or.inr ⟨m288, tg288, ln288, F288, x288, rfl, rfl, Ex_t hX259 hx288, hC288, Fq_t (ln := ln) (ln1 := ln225) hM254 hX259 hM288 (by decide) (Or.inr (Or.inr (by have := hX259.1; omega))), (And.intro ho288 ht288).1, (And.intro ho288 ht288).2, by omega, by omega, by omega, by omega, c293, c295, trivial⟩
      have hM298 : Fq 0 [(9, 3), (10, 0), (10, 1), (10, 2), (10, 9), (11, 8), (11, 12), (11, 13), (11, 14), (11, 15), (11, 16), (11, 17), (11, 18)] m tg F F269 := Fq_t (ln := ln) (ln1 := ln225) hM254 hX259 hM273 (by decide) (Or.inr (Or.inr (by have := hX259.1; omega)))
      have lm299 := hx271.1
      have ho300 : own m268 (me) ∧ tg268 (me) = 9 := Ex_o hx271 ⟨ho256.1, ho256.2⟩
      have ho301 : own m268 (sc) ∧ tg268 (sc) = 11 := Ex_o hx271 ⟨ho257.1, ho257.2⟩
      have ho302 : own m268 (pg) ∧ tg268 (pg) = 10 := Ex_o hx271 ⟨ho258.1, ho258.2⟩
      have hX303 := Ex_t hX259 hx271
      have q304 := p283.1
      have q305 := p283.2.1
      have q306 := p283.2.2.1
      have c307 : NM m m268 tg268 := NM_t c263 hx271 c287
      refine Or.inr (Or.inl ⟨_, rfl, ?_⟩)
      refine jx_rt (v := some (rv (r270))) rfl rfl rfl rfl rfl jr_are ?_
      have q308 : F269 (sc) (7 : Int) = F (sc) (7 : Int) := ((show F269 (sc) (7 : Int) = F226 (sc) (7 : Int) from hM273 _ _ ho257.1 (fun w => by have q1 := ho257.2; rw [w, b231.2] at q1; exact absurd q1 (by decide)) (by rw [ho257.2]; rfl)).trans (show F226 (sc) (7 : Int) = F (sc) (7 : Int) from hM230 _ _ o_sc (own_z o_sc) (by rw [t_sc]; rfl)))
      have q309 := tz_b (F269 (sc) (15 : Int))
      have q310 := lz_b (F269 (sc) (14 : Int))
      exact Or.inl ⟨m268, tg268, ln268, F269, (r270), rfl, rfl, hX303, hC272, hM298, ⟨b274.1, b274.2⟩, by omega, by omega, by omega, by omega, by omega, by omega, by omega, by omega, (WK_m p283 (by omega)), by omega, by omega, c286, c307, trivial⟩
    · have _q := h221
      have t311 : tz (F (sc) (15 : Int)) = 1 := tz_p (by omega)
      refine cx_newp (pc_q := 27) (c := 7) rfl rfl (by decide) rfl rfl hC rfl (by decide) (fun n312 m312 tg312 ln312 F312 en312 em312 ho312 hx312 hC312 hf312 h0312 hs312 => ?_)
      have ex312 : 64 + (m : Int) ≤ n312 := by have := hX0.1; omega
      have lm313 := hx312.1
      have ho314 : own m312 (me) ∧ tg312 (me) = 9 := Ex_o hx312 ⟨o_me, t_me⟩
      have ho315 : own m312 (sc) ∧ tg312 (sc) = 11 := Ex_o hx312 ⟨o_sc, t_sc⟩
      have ho316 : own m312 (pg) ∧ tg312 (pg) = 10 := Ex_o hx312 ⟨o_pg, t_pg⟩
      have hX317 := Ex_t hX0 hx312
      have hM318 : Fq 0 [(9, 3), (10, 0), (10, 1), (10, 2), (10, 9), (11, 8), (11, 12), (11, 13), (11, 14), (11, 15), (11, 16), (11, 17), (11, 18)] m tg F F312 := Fq_n hM0 hf312 ex312
      have c319 : NM m m312 tg312 := NM_n NM_0 hC.1 hx312 en312 em312 ho312.2 (by decide)
      refine jx_ar (pc_q := 28) (st_q := [rv (n312), rv (n312)]) rfl rfl ja_dup rfl ?_
      refine jx_ld (pc_q := 29) (l_q := L0) (st_q := [rv (me), rv (n312), rv (n312)]) rfl (jl_rvn g1) ?_
      refine cx_gr (pc_q := 32) (c := 8) (q := 1) (v := sc) rfl rfl (by decide) (by decide) rfl rfl ho314.1 ho314.2 ((show F312 (me) (1 : Int) = F (me) (1 : Int) from hf312 _ _ (ne_n o_me en312)).trans e_sc) ?_
      refine cx_gi (pc_q := 35) (c := 10) (q := 15) (v := F (sc) (15 : Int)) rfl rfl (by decide) (by decide) (Or.inl rfl) rfl ho315.1 ho315.2 (show F312 (sc) (15 : Int) = F (sc) (15 : Int) from hf312 _ _ (ne_n o_sc en312)) ?_
      refine jx_ar (pc_q := 37) (st_q := [.int (i32 (25)), .int (i32 (F (sc) (15 : Int))), rv (n312), rv (n312)]) rfl rfl rfl rfl ?_
      refine jx_icmp_ne (pc_q := 40) (tg := 45) rfl rfl rfl (by omega) (by omega) (by decide) (by decide) (fun h320 => ?_) (fun h320 => ?_)
      · have _q := h320
        refine jx_ar (pc_q := 47) (st_q := [.int (i32 (23)), rv (n312), rv (n312)]) rfl rfl rfl rfl ?_
        refine jx_ld (pc_q := 48) (l_q := L0) (st_q := [rv (me), .int (i32 (23)), rv (n312), rv (n312)]) rfl (jl_rvn g1) ?_
        refine cx_gr (pc_q := 51) (c := 8) (q := 1) (v := sc) rfl rfl (by decide) (by decide) rfl rfl ho314.1 ho314.2 ((show F312 (me) (1 : Int) = F (me) (1 : Int) from hf312 _ _ (ne_n o_me en312)).trans e_sc) ?_
        refine cx_gi (pc_q := 54) (c := 10) (q := 13) (v := F (sc) (13 : Int)) rfl rfl (by decide) (by decide) (Or.inl rfl) rfl ho315.1 ho315.2 (show F312 (sc) (13 : Int) = F (sc) (13 : Int) from hf312 _ _ (ne_n o_sc en312)) ?_
        have b321 : (-2147483648 : Int) ≤ F (sc) (13 : Int) ∧ F (sc) (13 : Int) ≤ 2147483647 := by have z := HC_i (c := 10) (q := 13) hC312 ho315.1 ho315.2 (by decide) rfl; rw [show F312 (sc) ((13 : Nat) : Int) = F (sc) (13 : Int) from (show F312 (sc) (13 : Int) = F (sc) (13 : Int) from hf312 _ _ (ne_n o_sc en312))] at z; exact z
        refine cx_sp (kd := 2) (a := n312) (st := [rv (n312)]) (as := [.int (i32 (23)), .int (i32 (F (sc) (13 : Int)))]) rfl rfl (by decide) rfl ho312.1.1 ⟨rfl, (by rw [jS_r, jS_0]; exact Nat.le_of_ble_eq_true rfl)⟩ rfl (k_LNode_init (dd := d) (R := R) (m := m312) (tg := tg312) (ln := ln312) (F := F312) (me := n312) (kd := 23) (l := F (sc) (13 : Int)) (hd := by omega) (hC := hC312) (o_me := ho312.1) (t_me := ho312.2) (h_kd := by omega) (h_l := by omega) (z_me := h0312)) (fun o V_q hq => ?_)
        obtain ⟨F322, rfl, rfl, hC323, hM324, p325, zp326, -⟩ := hq
        have hM327 : Fq 0 [(9, 3), (10, 0), (10, 1), (10, 2), (10, 9), (11, 8), (11, 12), (11, 13), (11, 14), (11, 15), (11, 16), (11, 17), (11, 18)] m tg F F322 := Fq_t (ln := ln) (ln1 := ln312) hM318 hX317 hM324 (by decide) (Or.inr (Or.inr ex312))
        have c328 : NP m312 tg312 F322 := NP_nn hC c_NP hx312 en312 em312 (fun b i ob => (hM324 b i (own_m ob hx312.1) (ne_n ob en312) rfl).trans (hf312 b i (ne_n ob en312))) (fun _ => (zp326 _ (by decide) (by decide))) (fun w => absurd (ho312.2.symm.trans w) (by decide)) (fun w => absurd (ho312.2.symm.trans w) (by decide))
        refine Or.inl ⟨rfl, ?_⟩
        refine jx_ld (pc_q := 58) (l_q := jSto1 L0 1 (rv (n312))) (st_q := []) rfl (js_rvn (by decide)) ?_
        obtain ⟨L329, eL329⟩ : ∃ q : jL, q = jSto1 L0 1 (rv (n312)) := ⟨_, rfl⟩
        rw [← eL329]
        have g330 : jGet L329 0 = some (rv (me)) := eL329 ▸ jg_nr (by decide) g1
        have g331 : jGet L329 1 = some (rv (n312)) := eL329 ▸ jg_eq
        clear eL329
        refine jx_ld (pc_q := 59) (l_q := L329) (st_q := [rv (me)]) rfl (jl_rvn g330) ?_
        refine cx_gr (pc_q := 62) (c := 8) (q := 1) (v := sc) rfl rfl (by decide) (by decide) rfl rfl ho314.1 ho314.2 (((show F322 (me) (1 : Int) = F312 (me) (1 : Int) from hM324 _ _ ho314.1 (fun w => by have q1 := ho314.2; rw [w, ho312.2] at q1; exact absurd q1 (by decide)) (by rw [ho314.2]; rfl)).trans (show F312 (me) (1 : Int) = F (me) (1 : Int) from hf312 _ _ (ne_n o_me en312))).trans e_sc) ?_
        have q332 : F322 (sc) (8 : Int) = F (sc) (8 : Int) := ((show F322 (sc) (8 : Int) = F312 (sc) (8 : Int) from hM324 _ _ ho315.1 (fun w => by have q1 := ho315.2; rw [w, ho312.2] at q1; exact absurd q1 (by decide)) (by rw [ho315.2]; rfl)).trans (show F312 (sc) (8 : Int) = F (sc) (8 : Int) from hf312 _ _ (ne_n o_sc en312)))
        have q333 : F322 (sc) (15 : Int) = F (sc) (15 : Int) := ((show F322 (sc) (15 : Int) = F312 (sc) (15 : Int) from hM324 _ _ ho315.1 (fun w => by have q1 := ho315.2; rw [w, ho312.2] at q1; exact absurd q1 (by decide)) (by rw [ho315.2]; rfl)).trans (show F312 (sc) (15 : Int) = F (sc) (15 : Int) from hf312 _ _ (ne_n o_sc en312)))
        have q334 : tz (F322 (sc) (15 : Int)) = tz (F (sc) (15 : Int)) := by rw [q333]
        have q335 := tz_b (F (sc) (15 : Int))
        have q336 : F322 (sc) (7 : Int) = F (sc) (7 : Int) := ((show F322 (sc) (7 : Int) = F312 (sc) (7 : Int) from hM324 _ _ ho315.1 (fun w => by have q1 := ho315.2; rw [w, ho312.2] at q1; exact absurd q1 (by decide)) (by rw [ho315.2]; rfl)).trans (show F312 (sc) (7 : Int) = F (sc) (7 : Int) from hf312 _ _ (ne_n o_sc en312)))
        have q337 : F322 (sc) (14 : Int) = F (sc) (14 : Int) := ((show F322 (sc) (14 : Int) = F312 (sc) (14 : Int) from hM324 _ _ ho315.1 (fun w => by have q1 := ho315.2; rw [w, ho312.2] at q1; exact absurd q1 (by decide)) (by rw [ho315.2]; rfl)).trans (show F312 (sc) (14 : Int) = F (sc) (14 : Int) from hf312 _ _ (ne_n o_sc en312)))
        have q338 : lz (F322 (sc) (14 : Int)) = lz (F (sc) (14 : Int)) := by rw [q337]
        have q339 := lz_b (F (sc) (14 : Int))
        refine cx_vi (c := 10) (a := sc) (st := []) (as := []) rfl rfl rfl ho315.1 ho315.2 (by decide) rfl ⟨rfl, rfl, (Nat.le_of_ble_eq_true rfl)⟩ rfl (k_LScanner_next (dd := d) (R := R) (m := m312) (tg := tg312) (ln := ln312) (F := F322) (me := sc) (hd := by omega) (hC := hC323) (o_me := ho315.1) (t_me := ho315.2) (p_0 := by omega) (p_1 := by omega)) (fun o V_q hq => ?_)
        obtain ⟨F340, rfl, rfl, hC341, hM342, p343, p344, p345, -⟩ := hq
        have hM346 : Fq 0 [(9, 3), (10, 0), (10, 1), (10, 2), (10, 9), (11, 8), (11, 12), (11, 13), (11, 14), (11, 15), (11, 16), (11, 17), (11, 18)] m tg F F340 := Fq_t (ln := ln) (ln1 := ln312) hM327 hX317 hM342 (by decide) (Or.inl rfl)
        have c347 : NP m312 tg312 F340 := NP_q hC323 c328 hM342 rfl rfl
        refine Or.inl ⟨rfl, ?_⟩
        refine jx_ld (pc_q := 66) (l_q := L329) (st_q := [rv (n312)]) rfl (jl_rvn g331) ?_
        refine jx_ld (pc_q := 67) (l_q := L329) (st_q := [rv (me), rv (n312)]) rfl (jl_rvn g330) ?_
        have b348 : (0 : Int) ≤ F (me) (3 : Int) ∧ F (me) (3 : Int) ≤ 8 := by have z := HC_i (c := 8) (q := 3) hC341 ho314.1 ho314.2 (by decide) rfl; rw [show F340 (me) ((3 : Nat) : Int) = F (me) (3 : Int) from ((show F340 (me) (3 : Int) = F322 (me) (3 : Int) from hM342 _ _ ho314.1 (own_z ho314.1) (by rw [ho314.2]; rfl)).trans ((show F322 (me) (3 : Int) = F312 (me) (3 : Int) from hM324 _ _ ho314.1 (fun w => by have q1 := ho314.2; rw [w, ho312.2] at q1; exact absurd q1 (by decide)) (by rw [ho314.2]; rfl)).trans (show F312 (me) (3 : Int) = F (me) (3 : Int) from hf312 _ _ (ne_n o_me en312))))] at z; exact z
        have q349 := tz_b (F340 (sc) (15 : Int))
        have q350 : F340 (sc) (7 : Int) = F (sc) (7 : Int) := ((show F340 (sc) (7 : Int) = F322 (sc) (7 : Int) from hM342 _ _ ho315.1 (own_z ho315.1) (by rw [ho315.2]; rfl)).trans ((show F322 (sc) (7 : Int) = F312 (sc) (7 : Int) from hM324 _ _ ho315.1 (fun w => by have q1 := ho315.2; rw [w, ho312.2] at q1; exact absurd q1 (by decide)) (by rw [ho315.2]; rfl)).trans (show F312 (sc) (7 : Int) = F (sc) (7 : Int) from hf312 _ _ (ne_n o_sc en312))))
        have q351 := lz_b (F340 (sc) (14 : Int))
        have q352 : F340 (me) (3 : Int) = F (me) (3 : Int) := ((show F340 (me) (3 : Int) = F322 (me) (3 : Int) from hM342 _ _ ho314.1 (own_z ho314.1) (by rw [ho314.2]; rfl)).trans ((show F322 (me) (3 : Int) = F312 (me) (3 : Int) from hM324 _ _ ho314.1 (fun w => by have q1 := ho314.2; rw [w, ho312.2] at q1; exact absurd q1 (by decide)) (by rw [ho314.2]; rfl)).trans (show F312 (me) (3 : Int) = F (me) (3 : Int) from hf312 _ _ (ne_n o_me en312))))
        have q353 : F340 (pg) (9 : Int) = F (pg) (9 : Int) := ((show F340 (pg) (9 : Int) = F322 (pg) (9 : Int) from hM342 _ _ ho316.1 (own_z ho316.1) (by rw [ho316.2]; rfl)).trans ((show F322 (pg) (9 : Int) = F312 (pg) (9 : Int) from hM324 _ _ ho316.1 (fun w => by have q1 := ho316.2; rw [w, ho312.2] at q1; exact absurd q1 (by decide)) (by rw [ho316.2]; rfl)).trans (show F312 (pg) (9 : Int) = F (pg) (9 : Int) from hf312 _ _ (ne_n o_pg en312))))
        refine cx_vi (c := 8) (a := me) (st := [rv (n312)]) (as := []) rfl rfl rfl ho314.1 ho314.2 (by decide) rfl ⟨rfl, rfl, (by rw [jS_r, jS_0]; exact Nat.le_of_ble_eq_true rfl)⟩ rfl (k_LParser_operand (dd := d) (R := R) (m := m312) (tg := tg312) (ln := ln312) (F := F340) (kk := kk) (hE := hE) (me := me) (hd := by omega) (hC := hC341) (o_me := ho314.1) (t_me := ho314.2) (sc := sc) (pg := pg) (o_sc := ho315.1) (t_sc := ho315.2) (e_sc := (((show F340 (me) (1 : Int) = F322 (me) (1 : Int) from hM342 _ _ ho314.1 (own_z ho314.1) (by rw [ho314.2]; rfl)).trans ((show F322 (me) (1 : Int) = F312 (me) (1 : Int) from hM324 _ _ ho314.1 (fun w => by have q1 := ho314.2; rw [w, ho312.2] at q1; exact absurd q1 (by decide)) (by rw [ho314.2]; rfl)).trans (show F312 (me) (1 : Int) = F (me) (1 : Int) from hf312 _ _ (ne_n o_me en312)))).trans e_sc)) (o_pg := ho316.1) (t_pg := ho316.2) (e_pg := (((show F340 (me) (0 : Int) = F322 (me) (0 : Int) from hM342 _ _ ho314.1 (own_z ho314.1) (by rw [ho314.2]; rfl)).trans ((show F322 (me) (0 : Int) = F312 (me) (0 : Int) from hM324 _ _ ho314.1 (fun w => by have q1 := ho314.2; rw [w, ho312.2] at q1; exact absurd q1 (by decide)) (by rw [ho314.2]; rfl)).trans (show F312 (me) (0 : Int) = F (me) (0 : Int) from hf312 _ _ (ne_n o_me en312)))).trans e_pg)) (p_0 := by omega) (p_1 := by omega) (p_2 := by omega) (p_3 := by omega) (c_NP := c347)) (fun o V_q hq => ?_)
        obtain ⟨m354, tg354, ln354, F355, r356, rfl, rfl, hx357, hC358, hM359, b360, p361, p362, p363, p364, p365, p366, p367, p368, p369, p370, p371, c372, c373, -⟩ | ⟨m374, tg374, ln374, F374, x374, rfl, rfl, hx374, hC374, hM374, ho374, ht374, p375, p376, p377, p378, c379, c380, -⟩ := hq
        rotate_left
        ·
          have c381 : NM m m374 tg374 := NM_t c319 hx374 c380
          have lm382 := hx374.1
          refine Or.inr (Or.inr (Or.inr ⟨_, _, rfl, cx_exc (c := 15) ho374 ht374 (by decide), rfl, ?_⟩))
          have q383 : F340 (sc) (7 : Int) = F (sc) (7 : Int) := ((show F340 (sc) (7 : Int) = F322 (sc) (7 : Int) from hM342 _ _ ho315.1 (own_z ho315.1) (by rw [ho315.2]; rfl)).trans ((show F322 (sc) (7 : Int) = F312 (sc) (7 : Int) from hM324 _ _ ho315.1 (fun w => by have q1 := ho315.2; rw [w, ho312.2] at q1; exact absurd q1 (by decide)) (by rw [ho315.2]; rfl)).trans (show F312 (sc) (7 : Int) = F (sc) (7 : Int) from hf312 _ _ (ne_n o_sc en312))))
          exact Or.inr ⟨m374, tg374, ln374, F374, x374, rfl, rfl, Ex_t hX317 hx374, hC374, Fq_t (ln := ln) (ln1 := ln312) hM346 hX317 hM374 (by decide) (Or.inl rfl), (And.intro ho374 ht374).1, (And.intro ho374 ht374).2, by omega, by omega, by omega, by omega, c379, c381, trivial⟩
        have hM384 : Fq 0 [(9, 3), (10, 0), (10, 1), (10, 2), (10, 9), (11, 8), (11, 12), (11, 13), (11, 14), (11, 15), (11, 16), (11, 17), (11, 18)] m tg F F355 := Fq_t (ln := ln) (ln1 := ln312) hM346 hX317 hM359 (by decide) (Or.inl rfl)
        have lm385 := hx357.1
        have lt386 : n312 < 64 + (m312 : Int) := ho312.1.2.1
        have ho387 : own m354 (me) ∧ tg354 (me) = 9 := Ex_o hx357 ⟨ho314.1, ho314.2⟩
        have ho388 : own m354 (n312) ∧ tg354 (n312) = 8 := Ex_o hx357 ⟨ho312.1, ho312.2⟩
        have ho389 : own m354 (sc) ∧ tg354 (sc) = 11 := Ex_o hx357 ⟨ho315.1, ho315.2⟩
        have ho390 : own m354 (pg) ∧ tg354 (pg) = 10 := Ex_o hx357 ⟨ho316.1, ho316.2⟩
        have hX391 := Ex_t hX317 hx357
        have q392 := p369.1
        have q393 := p369.2.1
        have q394 := p369.2.2.1
        have c395 : NM m m354 tg354 := NM_t c319 hx357 c373
        refine Or.inr (Or.inl ⟨_, rfl, ?_⟩)
        have q396 := p369.1
        have q397 := p369.2.1
        have q398 := p369.2.2.1
        rw [← cV_gh (F := F355) (a := r356) (j := 100) (z := 17 - 2 * F me (3 : Int)) (Or.inr ⟨by decide, by rw [b360.2]; decide⟩)]
        obtain ⟨F399, eF399⟩ : ∃ q, q = uF F355 (r356) (100 : Int) (17 - 2 * F me (3 : Int)) := ⟨_, rfl⟩
        rw [← eF399]
        have hC400 : HC 0 m354 tg354 ln354 F399 := by rw [eF399]; exact HC_gh hC358 (by rw [b360.2]; decide) (by decide)
        have hM401 : Fq 0 [(9, 3), (10, 0), (10, 1), (10, 2), (10, 9), (11, 8), (11, 12), (11, 13), (11, 14), (11, 15), (11, 16), (11, 17), (11, 18)] m tg F F399 := by rw [eF399]; exact Fq_x hM384 (Or.inr (by have := hX391.1; omega))
        rw [← cV_gh (F := F399) (a := r356) (j := 103) (z := 1) (Or.inr ⟨by decide, by rw [b360.2]; decide⟩)]
        obtain ⟨F402, eF402⟩ : ∃ q, q = uF F399 (r356) (103 : Int) (1) := ⟨_, rfl⟩
        rw [← eF402]
        have hC403 : HC 0 m354 tg354 ln354 F402 := by rw [eF402]; exact HC_gh hC400 (by rw [b360.2]; decide) (by decide)
        have hM404 : Fq 0 [(9, 3), (10, 0), (10, 1), (10, 2), (10, 9), (11, 8), (11, 12), (11, 13), (11, 14), (11, 15), (11, 16), (11, 17), (11, 18)] m tg F F402 := by rw [eF402]; exact Fq_x hM401 (Or.inr (by have := hX391.1; omega))
        have c405 : NP m354 tg354 F402 := by rw [eF402, eF399]; exact NP_seal hC358 c372 b360.1 b360.2 p369 (by omega)
        refine cx_po (pc_q := 73) (c := 7) (q := 4) (qi := (4 : Int)) (z := r356) rfl rfl (by decide) (by decide) rfl rfl rfl (by decide) rfl ho388.1 ho388.2 rfl ?_
        obtain ⟨F406, eF406⟩ : ∃ q, q = uF F402 (n312) (4 : Int) (r356) := ⟨_, rfl⟩
        rw [← eF406]
        have hC407 : HC 0 m354 tg354 ln354 F406 := by rw [eF406]; exact HC_fr (c := 7) (q := 4) (by decide) hC403 ho388.2 (by decide) rfl (Or.inr ⟨b360.1, b360.2⟩) ⟨fun w => absurd w (by decide), fun w => absurd w (by decide)⟩
        have hM408 : Fq 0 [(9, 3), (10, 0), (10, 1), (10, 2), (10, 9), (11, 8), (11, 12), (11, 13), (11, 14), (11, 15), (11, 16), (11, 17), (11, 18)] m tg F F406 := by rw [eF406]; exact Fq_x hM404 (Or.inr ex312)
        have c409 : NP m354 tg354 F406 := by rw [eF406]; exact NP_un hC403 c405 ho388.1 ho388.2 ((show F402 (n312) (103 : Int) = F399 (n312) (103 : Int) from by rw [eF402]; exact uF_a (by omega)).trans ((show F399 (n312) (103 : Int) = F355 (n312) (103 : Int) from by rw [eF399]; exact uF_j (by decide)).trans ((show F355 (n312) (103 : Int) = F340 (n312) (103 : Int) from hM359 _ _ ho312.1 (own_z ho312.1) (by rw [ho312.2]; rfl)).trans ((show F340 (n312) (103 : Int) = F322 (n312) (103 : Int) from hM342 _ _ ho312.1 (own_z ho312.1) (by rw [ho312.2]; rfl)).trans (show F322 (n312) (103 : Int) = 0 from zp326 _ (by decide) (by decide)))))) (by decide) (Or.inl (by decide))
        refine jx_ld (pc_q := 74) (l_q := L329) (st_q := [rv (n312)]) rfl (jl_rvn g331) ?_
        refine jx_rt (v := some (rv (n312))) rfl rfl rfl rfl rfl jr_are ?_
        have q410 : F406 (sc) (7 : Int) = F (sc) (7 : Int) := ((show F406 (sc) (7 : Int) = F402 (sc) (7 : Int) from by rw [eF406]; exact uF_j (by decide)).trans ((show F402 (sc) (7 : Int) = F399 (sc) (7 : Int) from by rw [eF402]; exact uF_j (by decide)).trans ((show F399 (sc) (7 : Int) = F355 (sc) (7 : Int) from by rw [eF399]; exact uF_j (by decide)).trans ((show F355 (sc) (7 : Int) = F340 (sc) (7 : Int) from hM359 _ _ ho315.1 (own_z ho315.1) (by rw [ho315.2]; rfl)).trans ((show F340 (sc) (7 : Int) = F322 (sc) (7 : Int) from hM342 _ _ ho315.1 (own_z ho315.1) (by rw [ho315.2]; rfl)).trans ((show F322 (sc) (7 : Int) = F312 (sc) (7 : Int) from hM324 _ _ ho315.1 (fun w => by have q1 := ho315.2; rw [w, ho312.2] at q1; exact absurd q1 (by decide)) (by rw [ho315.2]; rfl)).trans (show F312 (sc) (7 : Int) = F (sc) (7 : Int) from hf312 _ _ (ne_n o_sc en312))))))))
        have q411 : F406 (sc) (8 : Int) = F355 (sc) (8 : Int) := ((show F406 (sc) (8 : Int) = F402 (sc) (8 : Int) from by rw [eF406]; exact uF_j (by decide)).trans ((show F402 (sc) (8 : Int) = F399 (sc) (8 : Int) from by rw [eF402]; exact uF_j (by decide)).trans (show F399 (sc) (8 : Int) = F355 (sc) (8 : Int) from by rw [eF399]; exact uF_j (by decide))))
        have q412 : F406 (pg) (9 : Int) = F355 (pg) (9 : Int) := ((show F406 (pg) (9 : Int) = F402 (pg) (9 : Int) from by rw [eF406]; exact uF_j (by decide)).trans ((show F402 (pg) (9 : Int) = F399 (pg) (9 : Int) from by rw [eF402]; exact uF_j (by decide)).trans (show F399 (pg) (9 : Int) = F355 (pg) (9 : Int) from by rw [eF399]; exact uF_j (by decide))))
        have q413 : F406 (me) (3 : Int) = F355 (me) (3 : Int) := ((show F406 (me) (3 : Int) = F402 (me) (3 : Int) from by rw [eF406]; exact uF_j (by decide)).trans ((show F402 (me) (3 : Int) = F399 (me) (3 : Int) from by rw [eF402]; exact uF_j (by decide)).trans (show F399 (me) (3 : Int) = F355 (me) (3 : Int) from by rw [eF399]; exact uF_j (by decide))))
        have q414 : F406 (sc) (8 : Int) = F355 (sc) (8 : Int) := ((show F406 (sc) (8 : Int) = F402 (sc) (8 : Int) from by rw [eF406]; exact uF_j (by decide)).trans ((show F402 (sc) (8 : Int) = F399 (sc) (8 : Int) from by rw [eF402]; exact uF_j (by decide)).trans (show F399 (sc) (8 : Int) = F355 (sc) (8 : Int) from by rw [eF399]; exact uF_j (by decide))))
        have q415 : F406 (sc) (15 : Int) = F355 (sc) (15 : Int) := ((show F406 (sc) (15 : Int) = F402 (sc) (15 : Int) from by rw [eF406]; exact uF_j (by decide)).trans ((show F402 (sc) (15 : Int) = F399 (sc) (15 : Int) from by rw [eF402]; exact uF_j (by decide)).trans (show F399 (sc) (15 : Int) = F355 (sc) (15 : Int) from by rw [eF399]; exact uF_j (by decide))))
        have q416 : tz (F406 (sc) (15 : Int)) = tz (F355 (sc) (15 : Int)) := by rw [q415]
        have q417 := tz_b (F355 (sc) (15 : Int))
        have q418 : F406 (sc) (14 : Int) = F355 (sc) (14 : Int) := ((show F406 (sc) (14 : Int) = F402 (sc) (14 : Int) from by rw [eF406]; exact uF_j (by decide)).trans ((show F402 (sc) (14 : Int) = F399 (sc) (14 : Int) from by rw [eF402]; exact uF_j (by decide)).trans (show F399 (sc) (14 : Int) = F355 (sc) (14 : Int) from by rw [eF399]; exact uF_j (by decide))))
        have q419 : lz (F406 (sc) (14 : Int)) = lz (F355 (sc) (14 : Int)) := by rw [q418]
        have q420 := lz_b (F355 (sc) (14 : Int))
        have q421 : F406 (pg) (9 : Int) = F355 (pg) (9 : Int) := ((show F406 (pg) (9 : Int) = F402 (pg) (9 : Int) from by rw [eF406]; exact uF_j (by decide)).trans ((show F402 (pg) (9 : Int) = F399 (pg) (9 : Int) from by rw [eF402]; exact uF_j (by decide)).trans (show F399 (pg) (9 : Int) = F355 (pg) (9 : Int) from by rw [eF399]; exact uF_j (by decide))))
        have q422 : F406 (n312) (0 : Int) = F322 (n312) (0 : Int) := ((show F406 (n312) (0 : Int) = F402 (n312) (0 : Int) from by rw [eF406]; exact uF_j (by decide)).trans ((show F402 (n312) (0 : Int) = F399 (n312) (0 : Int) from by rw [eF402]; exact uF_j (by decide)).trans ((show F399 (n312) (0 : Int) = F355 (n312) (0 : Int) from by rw [eF399]; exact uF_j (by decide)).trans ((show F355 (n312) (0 : Int) = F340 (n312) (0 : Int) from hM359 _ _ ho312.1 (own_z ho312.1) (by rw [ho312.2]; rfl)).trans (show F340 (n312) (0 : Int) = F322 (n312) (0 : Int) from hM342 _ _ ho312.1 (own_z ho312.1) (by rw [ho312.2]; rfl))))))
        have q423 : F406 (me) (3 : Int) = F355 (me) (3 : Int) := ((show F406 (me) (3 : Int) = F402 (me) (3 : Int) from by rw [eF406]; exact uF_j (by decide)).trans ((show F402 (me) (3 : Int) = F399 (me) (3 : Int) from by rw [eF402]; exact uF_j (by decide)).trans (show F399 (me) (3 : Int) = F355 (me) (3 : Int) from by rw [eF399]; exact uF_j (by decide))))
        exact Or.inl ⟨m354, tg354, ln354, F406, (n312), rfl, rfl, hX391, hC407, hM408, ⟨ho388.1, ho388.2⟩, by omega, by omega, by omega, by omega, by omega, by omega, by omega, by omega, (WK_i (K := 18 - 2 * F me (3 : Int)) ((show F406 (n312) (103 : Int) = F402 (n312) (103 : Int) from by rw [eF406]; exact uF_j (by decide)).trans ((show F402 (n312) (103 : Int) = F399 (n312) (103 : Int) from by rw [eF402]; exact uF_a (by omega)).trans ((show F399 (n312) (103 : Int) = F355 (n312) (103 : Int) from by rw [eF399]; exact uF_j (by decide)).trans ((show F355 (n312) (103 : Int) = F340 (n312) (103 : Int) from hM359 _ _ ho312.1 (own_z ho312.1) (by rw [ho312.2]; rfl)).trans ((show F340 (n312) (103 : Int) = F322 (n312) (103 : Int) from hM342 _ _ ho312.1 (own_z ho312.1) (by rw [ho312.2]; rfl)).trans (show F322 (n312) (103 : Int) = 0 from zp326 _ (by decide) (by decide))))))) ((show F406 (n312) (101 : Int) = F402 (n312) (101 : Int) from by rw [eF406]; exact uF_j (by decide)).trans ((show F402 (n312) (101 : Int) = F399 (n312) (101 : Int) from by rw [eF402]; exact uF_j (by decide)).trans ((show F399 (n312) (101 : Int) = F355 (n312) (101 : Int) from by rw [eF399]; exact uF_j (by decide)).trans ((show F355 (n312) (101 : Int) = F340 (n312) (101 : Int) from hM359 _ _ ho312.1 (own_z ho312.1) (by rw [ho312.2]; rfl)).trans ((show F340 (n312) (101 : Int) = F322 (n312) (101 : Int) from hM342 _ _ ho312.1 (own_z ho312.1) (by rw [ho312.2]; rfl)).trans (show F322 (n312) (101 : Int) = 0 from zp326 _ (by decide) (by decide))))))) ((show F406 (n312) (8 : Int) = F402 (n312) (8 : Int) from by rw [eF406]; exact uF_j (by decide)).trans ((show F402 (n312) (8 : Int) = F399 (n312) (8 : Int) from by rw [eF402]; exact uF_j (by decide)).trans ((show F399 (n312) (8 : Int) = F355 (n312) (8 : Int) from by rw [eF399]; exact uF_j (by decide)).trans ((show F355 (n312) (8 : Int) = F340 (n312) (8 : Int) from hM359 _ _ ho312.1 (own_z ho312.1) (by rw [ho312.2]; rfl)).trans ((show F340 (n312) (8 : Int) = F322 (n312) (8 : Int) from hM342 _ _ ho312.1 (own_z ho312.1) (by rw [ho312.2]; rfl)).trans (show F322 (n312) (8 : Int) = 0 from zp326 _ (by decide) (by decide))))))) (Or.inr (by rw [show F406 (n312) (4 : Int) = r356 from (show F406 (n312) (4 : Int) = r356 from by rw [eF406]; exact uF_e)]; exact ⟨((show F406 (r356) (103 : Int) = F402 (r356) (103 : Int) from by rw [eF406]; exact uF_j (by decide)).trans (show F402 (r356) (103 : Int) = 1 from by rw [eF402]; exact uF_e)), (by rw [show F406 (r356) (100 : Int) = 17 - 2 * F me (3 : Int) from ((show F406 (r356) (100 : Int) = F402 (r356) (100 : Int) from by rw [eF406]; exact uF_j (by decide)).trans ((show F402 (r356) (100 : Int) = F399 (r356) (100 : Int) from by rw [eF402]; exact uF_j (by decide)).trans (show F399 (r356) (100 : Int) = 17 - 2 * F me (3 : Int) from by rw [eF399]; exact uF_e)))]; omega), (by rw [show F406 (r356) (100 : Int) = 17 - 2 * F me (3 : Int) from ((show F406 (r356) (100 : Int) = F402 (r356) (100 : Int) from by rw [eF406]; exact uF_j (by decide)).trans ((show F402 (r356) (100 : Int) = F399 (r356) (100 : Int) from by rw [eF402]; exact uF_j (by decide)).trans (show F399 (r356) (100 : Int) = 17 - 2 * F me (3 : Int) from by rw [eF399]; exact uF_e)))]; omega)⟩)) (Or.inl ((show F406 (n312) (5 : Int) = F402 (n312) (5 : Int) from by rw [eF406]; exact uF_j (by decide)).trans ((show F402 (n312) (5 : Int) = F399 (n312) (5 : Int) from by rw [eF402]; exact uF_j (by decide)).trans ((show F399 (n312) (5 : Int) = F355 (n312) (5 : Int) from by rw [eF399]; exact uF_j (by decide)).trans ((show F355 (n312) (5 : Int) = F340 (n312) (5 : Int) from hM359 _ _ ho312.1 (own_z ho312.1) (by rw [ho312.2]; rfl)).trans ((show F340 (n312) (5 : Int) = F322 (n312) (5 : Int) from hM342 _ _ ho312.1 (own_z ho312.1) (by rw [ho312.2]; rfl)).trans (show F322 (n312) (5 : Int) = 0 from zp326 _ (by decide) (by decide)))))))) (Or.inl ((show F406 (n312) (6 : Int) = F402 (n312) (6 : Int) from by rw [eF406]; exact uF_j (by decide)).trans ((show F402 (n312) (6 : Int) = F399 (n312) (6 : Int) from by rw [eF402]; exact uF_j (by decide)).trans ((show F399 (n312) (6 : Int) = F355 (n312) (6 : Int) from by rw [eF399]; exact uF_j (by decide)).trans ((show F355 (n312) (6 : Int) = F340 (n312) (6 : Int) from hM359 _ _ ho312.1 (own_z ho312.1) (by rw [ho312.2]; rfl)).trans ((show F340 (n312) (6 : Int) = F322 (n312) (6 : Int) from hM342 _ _ ho312.1 (own_z ho312.1) (by rw [ho312.2]; rfl)).trans (show F322 (n312) (6 : Int) = 0 from zp326 _ (by decide) (by decide)))))))) (Or.inl ((show F406 (n312) (7 : Int) = F402 (n312) (7 : Int) from by rw [eF406]; exact uF_j (by decide)).trans ((show F402 (n312) (7 : Int) = F399 (n312) (7 : Int) from by rw [eF402]; exact uF_j (by decide)).trans ((show F399 (n312) (7 : Int) = F355 (n312) (7 : Int) from by rw [eF399]; exact uF_j (by decide)).trans ((show F355 (n312) (7 : Int) = F340 (n312) (7 : Int) from hM359 _ _ ho312.1 (own_z ho312.1) (by rw [ho312.2]; rfl)).trans ((show F340 (n312) (7 : Int) = F322 (n312) (7 : Int) from hM342 _ _ ho312.1 (own_z ho312.1) (by rw [ho312.2]; rfl)).trans (show F322 (n312) (7 : Int) = 0 from zp326 _ (by decide) (by decide)))))))) (Or.inl (by rw [show F406 (n312) (0 : Int) = F322 (n312) (0 : Int) from ((show F406 (n312) (0 : Int) = F402 (n312) (0 : Int) from by rw [eF406]; exact uF_j (by decide)).trans ((show F402 (n312) (0 : Int) = F399 (n312) (0 : Int) from by rw [eF402]; exact uF_j (by decide)).trans ((show F399 (n312) (0 : Int) = F355 (n312) (0 : Int) from by rw [eF399]; exact uF_j (by decide)).trans ((show F355 (n312) (0 : Int) = F340 (n312) (0 : Int) from hM359 _ _ ho312.1 (own_z ho312.1) (by rw [ho312.2]; rfl)).trans (show F340 (n312) (0 : Int) = F322 (n312) (0 : Int) from hM342 _ _ ho312.1 (own_z ho312.1) (by rw [ho312.2]; rfl))))))]; omega))), by omega, by omega, c409, c395, trivial⟩
      · have _q := h320
        have t424 : tz (F (sc) (15 : Int)) = 1 := tz_p (by omega)
        refine jx_ar (pc_q := 42) (st_q := [.int (i32 (24)), rv (n312), rv (n312)]) rfl rfl rfl rfl ?_
        refine jx_go (tg := 47) rfl rfl ?_
        refine jx_ld (pc_q := 48) (l_q := L0) (st_q := [rv (me), .int (i32 (24)), rv (n312), rv (n312)]) rfl (jl_rvn g1) ?_
        refine cx_gr (pc_q := 51) (c := 8) (q := 1) (v := sc) rfl rfl (by decide) (by decide) rfl rfl ho314.1 ho314.2 ((show F312 (me) (1 : Int) = F (me) (1 : Int) from hf312 _ _ (ne_n o_me en312)).trans e_sc) ?_
        refine cx_gi (pc_q := 54) (c := 10) (q := 13) (v := F (sc) (13 : Int)) rfl rfl (by decide) (by decide) (Or.inl rfl) rfl ho315.1 ho315.2 (show F312 (sc) (13 : Int) = F (sc) (13 : Int) from hf312 _ _ (ne_n o_sc en312)) ?_
        have b425 : (-2147483648 : Int) ≤ F (sc) (13 : Int) ∧ F (sc) (13 : Int) ≤ 2147483647 := by have z := HC_i (c := 10) (q := 13) hC312 ho315.1 ho315.2 (by decide) rfl; rw [show F312 (sc) ((13 : Nat) : Int) = F (sc) (13 : Int) from (show F312 (sc) (13 : Int) = F (sc) (13 : Int) from hf312 _ _ (ne_n o_sc en312))] at z; exact z
        refine cx_sp (kd := 2) (a := n312) (st := [rv (n312)]) (as := [.int (i32 (24)), .int (i32 (F (sc) (13 : Int)))]) rfl rfl (by decide) rfl ho312.1.1 ⟨rfl, (by rw [jS_r, jS_0]; exact Nat.le_of_ble_eq_true rfl)⟩ rfl (k_LNode_init (dd := d) (R := R) (m := m312) (tg := tg312) (ln := ln312) (F := F312) (me := n312) (kd := 24) (l := F (sc) (13 : Int)) (hd := by omega) (hC := hC312) (o_me := ho312.1) (t_me := ho312.2) (h_kd := by omega) (h_l := by omega) (z_me := h0312)) (fun o V_q hq => ?_)
        obtain ⟨F426, rfl, rfl, hC427, hM428, p429, zp430, -⟩ := hq
        have hM431 : Fq 0 [(9, 3), (10, 0), (10, 1), (10, 2), (10, 9), (11, 8), (11, 12), (11, 13), (11, 14), (11, 15), (11, 16), (11, 17), (11, 18)] m tg F F426 := Fq_t (ln := ln) (ln1 := ln312) hM318 hX317 hM428 (by decide) (Or.inr (Or.inr ex312))
        have c432 : NP m312 tg312 F426 := NP_nn hC c_NP hx312 en312 em312 (fun b i ob => (hM428 b i (own_m ob hx312.1) (ne_n ob en312) rfl).trans (hf312 b i (ne_n ob en312))) (fun _ => (zp430 _ (by decide) (by decide))) (fun w => absurd (ho312.2.symm.trans w) (by decide)) (fun w => absurd (ho312.2.symm.trans w) (by decide))
        refine Or.inl ⟨rfl, ?_⟩
        refine jx_ld (pc_q := 58) (l_q := jSto1 L0 1 (rv (n312))) (st_q := []) rfl (js_rvn (by decide)) ?_
        obtain ⟨L433, eL433⟩ : ∃ q : jL, q = jSto1 L0 1 (rv (n312)) := ⟨_, rfl⟩
        rw [← eL433]
        have g434 : jGet L433 0 = some (rv (me)) := eL433 ▸ jg_nr (by decide) g1
        have g435 : jGet L433 1 = some (rv (n312)) := eL433 ▸ jg_eq
        clear eL433
        refine jx_ld (pc_q := 59) (l_q := L433) (st_q := [rv (me)]) rfl (jl_rvn g434) ?_
        refine cx_gr (pc_q := 62) (c := 8) (q := 1) (v := sc) rfl rfl (by decide) (by decide) rfl rfl ho314.1 ho314.2 (((show F426 (me) (1 : Int) = F312 (me) (1 : Int) from hM428 _ _ ho314.1 (fun w => by have q1 := ho314.2; rw [w, ho312.2] at q1; exact absurd q1 (by decide)) (by rw [ho314.2]; rfl)).trans (show F312 (me) (1 : Int) = F (me) (1 : Int) from hf312 _ _ (ne_n o_me en312))).trans e_sc) ?_
        have q436 : F426 (sc) (8 : Int) = F (sc) (8 : Int) := ((show F426 (sc) (8 : Int) = F312 (sc) (8 : Int) from hM428 _ _ ho315.1 (fun w => by have q1 := ho315.2; rw [w, ho312.2] at q1; exact absurd q1 (by decide)) (by rw [ho315.2]; rfl)).trans (show F312 (sc) (8 : Int) = F (sc) (8 : Int) from hf312 _ _ (ne_n o_sc en312)))
        have q437 : F426 (sc) (15 : Int) = F (sc) (15 : Int) := ((show F426 (sc) (15 : Int) = F312 (sc) (15 : Int) from hM428 _ _ ho315.1 (fun w => by have q1 := ho315.2; rw [w, ho312.2] at q1; exact absurd q1 (by decide)) (by rw [ho315.2]; rfl)).trans (show F312 (sc) (15 : Int) = F (sc) (15 : Int) from hf312 _ _ (ne_n o_sc en312)))
        have q438 : tz (F426 (sc) (15 : Int)) = tz (F (sc) (15 : Int)) := by rw [q437]
        have q439 := tz_b (F (sc) (15 : Int))
        have q440 : F426 (sc) (7 : Int) = F (sc) (7 : Int) := ((show F426 (sc) (7 : Int) = F312 (sc) (7 : Int) from hM428 _ _ ho315.1 (fun w => by have q1 := ho315.2; rw [w, ho312.2] at q1; exact absurd q1 (by decide)) (by rw [ho315.2]; rfl)).trans (show F312 (sc) (7 : Int) = F (sc) (7 : Int) from hf312 _ _ (ne_n o_sc en312)))
        have q441 : F426 (sc) (14 : Int) = F (sc) (14 : Int) := ((show F426 (sc) (14 : Int) = F312 (sc) (14 : Int) from hM428 _ _ ho315.1 (fun w => by have q1 := ho315.2; rw [w, ho312.2] at q1; exact absurd q1 (by decide)) (by rw [ho315.2]; rfl)).trans (show F312 (sc) (14 : Int) = F (sc) (14 : Int) from hf312 _ _ (ne_n o_sc en312)))
        have q442 : lz (F426 (sc) (14 : Int)) = lz (F (sc) (14 : Int)) := by rw [q441]
        have q443 := lz_b (F (sc) (14 : Int))
        refine cx_vi (c := 10) (a := sc) (st := []) (as := []) rfl rfl rfl ho315.1 ho315.2 (by decide) rfl ⟨rfl, rfl, (Nat.le_of_ble_eq_true rfl)⟩ rfl (k_LScanner_next (dd := d) (R := R) (m := m312) (tg := tg312) (ln := ln312) (F := F426) (me := sc) (hd := by omega) (hC := hC427) (o_me := ho315.1) (t_me := ho315.2) (p_0 := by omega) (p_1 := by omega)) (fun o V_q hq => ?_)
        obtain ⟨F444, rfl, rfl, hC445, hM446, p447, p448, p449, -⟩ := hq
        have hM450 : Fq 0 [(9, 3), (10, 0), (10, 1), (10, 2), (10, 9), (11, 8), (11, 12), (11, 13), (11, 14), (11, 15), (11, 16), (11, 17), (11, 18)] m tg F F444 := Fq_t (ln := ln) (ln1 := ln312) hM431 hX317 hM446 (by decide) (Or.inl rfl)
        have c451 : NP m312 tg312 F444 := NP_q hC427 c432 hM446 rfl rfl
        refine Or.inl ⟨rfl, ?_⟩
        refine jx_ld (pc_q := 66) (l_q := L433) (st_q := [rv (n312)]) rfl (jl_rvn g435) ?_
        refine jx_ld (pc_q := 67) (l_q := L433) (st_q := [rv (me), rv (n312)]) rfl (jl_rvn g434) ?_
        have b452 : (0 : Int) ≤ F (me) (3 : Int) ∧ F (me) (3 : Int) ≤ 8 := by have z := HC_i (c := 8) (q := 3) hC445 ho314.1 ho314.2 (by decide) rfl; rw [show F444 (me) ((3 : Nat) : Int) = F (me) (3 : Int) from ((show F444 (me) (3 : Int) = F426 (me) (3 : Int) from hM446 _ _ ho314.1 (own_z ho314.1) (by rw [ho314.2]; rfl)).trans ((show F426 (me) (3 : Int) = F312 (me) (3 : Int) from hM428 _ _ ho314.1 (fun w => by have q1 := ho314.2; rw [w, ho312.2] at q1; exact absurd q1 (by decide)) (by rw [ho314.2]; rfl)).trans (show F312 (me) (3 : Int) = F (me) (3 : Int) from hf312 _ _ (ne_n o_me en312))))] at z; exact z
        have q453 := tz_b (F444 (sc) (15 : Int))
        have q454 : F444 (sc) (7 : Int) = F (sc) (7 : Int) := ((show F444 (sc) (7 : Int) = F426 (sc) (7 : Int) from hM446 _ _ ho315.1 (own_z ho315.1) (by rw [ho315.2]; rfl)).trans ((show F426 (sc) (7 : Int) = F312 (sc) (7 : Int) from hM428 _ _ ho315.1 (fun w => by have q1 := ho315.2; rw [w, ho312.2] at q1; exact absurd q1 (by decide)) (by rw [ho315.2]; rfl)).trans (show F312 (sc) (7 : Int) = F (sc) (7 : Int) from hf312 _ _ (ne_n o_sc en312))))
        have q455 := lz_b (F444 (sc) (14 : Int))
        have q456 : F444 (me) (3 : Int) = F (me) (3 : Int) := ((show F444 (me) (3 : Int) = F426 (me) (3 : Int) from hM446 _ _ ho314.1 (own_z ho314.1) (by rw [ho314.2]; rfl)).trans ((show F426 (me) (3 : Int) = F312 (me) (3 : Int) from hM428 _ _ ho314.1 (fun w => by have q1 := ho314.2; rw [w, ho312.2] at q1; exact absurd q1 (by decide)) (by rw [ho314.2]; rfl)).trans (show F312 (me) (3 : Int) = F (me) (3 : Int) from hf312 _ _ (ne_n o_me en312))))
        have q457 : F444 (pg) (9 : Int) = F (pg) (9 : Int) := ((show F444 (pg) (9 : Int) = F426 (pg) (9 : Int) from hM446 _ _ ho316.1 (own_z ho316.1) (by rw [ho316.2]; rfl)).trans ((show F426 (pg) (9 : Int) = F312 (pg) (9 : Int) from hM428 _ _ ho316.1 (fun w => by have q1 := ho316.2; rw [w, ho312.2] at q1; exact absurd q1 (by decide)) (by rw [ho316.2]; rfl)).trans (show F312 (pg) (9 : Int) = F (pg) (9 : Int) from hf312 _ _ (ne_n o_pg en312))))
        refine cx_vi (c := 8) (a := me) (st := [rv (n312)]) (as := []) rfl rfl rfl ho314.1 ho314.2 (by decide) rfl ⟨rfl, rfl, (by rw [jS_r, jS_0]; exact Nat.le_of_ble_eq_true rfl)⟩ rfl (k_LParser_operand (dd := d) (R := R) (m := m312) (tg := tg312) (ln := ln312) (F := F444) (kk := kk) (hE := hE) (me := me) (hd := by omega) (hC := hC445) (o_me := ho314.1) (t_me := ho314.2) (sc := sc) (pg := pg) (o_sc := ho315.1) (t_sc := ho315.2) (e_sc := (((show F444 (me) (1 : Int) = F426 (me) (1 : Int) from hM446 _ _ ho314.1 (own_z ho314.1) (by rw [ho314.2]; rfl)).trans ((show F426 (me) (1 : Int) = F312 (me) (1 : Int) from hM428 _ _ ho314.1 (fun w => by have q1 := ho314.2; rw [w, ho312.2] at q1; exact absurd q1 (by decide)) (by rw [ho314.2]; rfl)).trans (show F312 (me) (1 : Int) = F (me) (1 : Int) from hf312 _ _ (ne_n o_me en312)))).trans e_sc)) (o_pg := ho316.1) (t_pg := ho316.2) (e_pg := (((show F444 (me) (0 : Int) = F426 (me) (0 : Int) from hM446 _ _ ho314.1 (own_z ho314.1) (by rw [ho314.2]; rfl)).trans ((show F426 (me) (0 : Int) = F312 (me) (0 : Int) from hM428 _ _ ho314.1 (fun w => by have q1 := ho314.2; rw [w, ho312.2] at q1; exact absurd q1 (by decide)) (by rw [ho314.2]; rfl)).trans (show F312 (me) (0 : Int) = F (me) (0 : Int) from hf312 _ _ (ne_n o_me en312)))).trans e_pg)) (p_0 := by omega) (p_1 := by omega) (p_2 := by omega) (p_3 := by omega) (c_NP := c451)) (fun o V_q hq => ?_)
        obtain ⟨m458, tg458, ln458, F459, r460, rfl, rfl, hx461, hC462, hM463, b464, p465, p466, p467, p468, p469, p470, p471, p472, p473, p474, p475, c476, c477, -⟩ | ⟨m478, tg478, ln478, F478, x478, rfl, rfl, hx478, hC478, hM478, ho478, ht478, p479, p480, p481, p482, c483, c484, -⟩ := hq
        rotate_left
        ·
          have c485 : NM m m478 tg478 := NM_t c319 hx478 c484
          have lm486 := hx478.1
          refine Or.inr (Or.inr (Or.inr ⟨_, _, rfl, cx_exc (c := 15) ho478 ht478 (by decide), rfl, ?_⟩))
          have q487 : F444 (sc) (7 : Int) = F (sc) (7 : Int) := ((show F444 (sc) (7 : Int) = F426 (sc) (7 : Int) from hM446 _ _ ho315.1 (own_z ho315.1) (by rw [ho315.2]; rfl)).trans ((show F426 (sc) (7 : Int) = F312 (sc) (7 : Int) from hM428 _ _ ho315.1 (fun w => by have q1 := ho315.2; rw [w, ho312.2] at q1; exact absurd q1 (by decide)) (by rw [ho315.2]; rfl)).trans (show F312 (sc) (7 : Int) = F (sc) (7 : Int) from hf312 _ _ (ne_n o_sc en312))))
          exact Or.inr ⟨m478, tg478, ln478, F478, x478, rfl, rfl, Ex_t hX317 hx478, hC478, Fq_t (ln := ln) (ln1 := ln312) hM450 hX317 hM478 (by decide) (Or.inl rfl), (And.intro ho478 ht478).1, (And.intro ho478 ht478).2, by omega, by omega, by omega, by omega, c483, c485, trivial⟩
        have hM488 : Fq 0 [(9, 3), (10, 0), (10, 1), (10, 2), (10, 9), (11, 8), (11, 12), (11, 13), (11, 14), (11, 15), (11, 16), (11, 17), (11, 18)] m tg F F459 := Fq_t (ln := ln) (ln1 := ln312) hM450 hX317 hM463 (by decide) (Or.inl rfl)
        have lm489 := hx461.1
        have lt490 : n312 < 64 + (m312 : Int) := ho312.1.2.1
        have ho491 : own m458 (me) ∧ tg458 (me) = 9 := Ex_o hx461 ⟨ho314.1, ho314.2⟩
        have ho492 : own m458 (n312) ∧ tg458 (n312) = 8 := Ex_o hx461 ⟨ho312.1, ho312.2⟩
        have ho493 : own m458 (sc) ∧ tg458 (sc) = 11 := Ex_o hx461 ⟨ho315.1, ho315.2⟩
        have ho494 : own m458 (pg) ∧ tg458 (pg) = 10 := Ex_o hx461 ⟨ho316.1, ho316.2⟩
        have hX495 := Ex_t hX317 hx461
        have q496 := p473.1
        have q497 := p473.2.1
        have q498 := p473.2.2.1
        have c499 : NM m m458 tg458 := NM_t c319 hx461 c477
        refine Or.inr (Or.inl ⟨_, rfl, ?_⟩)
        have q500 := p473.1
        have q501 := p473.2.1
        have q502 := p473.2.2.1
        rw [← cV_gh (F := F459) (a := r460) (j := 100) (z := 17 - 2 * F me (3 : Int)) (Or.inr ⟨by decide, by rw [b464.2]; decide⟩)]
        obtain ⟨F503, eF503⟩ : ∃ q, q = uF F459 (r460) (100 : Int) (17 - 2 * F me (3 : Int)) := ⟨_, rfl⟩
        rw [← eF503]
        have hC504 : HC 0 m458 tg458 ln458 F503 := by rw [eF503]; exact HC_gh hC462 (by rw [b464.2]; decide) (by decide)
        have hM505 : Fq 0 [(9, 3), (10, 0), (10, 1), (10, 2), (10, 9), (11, 8), (11, 12), (11, 13), (11, 14), (11, 15), (11, 16), (11, 17), (11, 18)] m tg F F503 := by rw [eF503]; exact Fq_x hM488 (Or.inr (by have := hX495.1; omega))
        rw [← cV_gh (F := F503) (a := r460) (j := 103) (z := 1) (Or.inr ⟨by decide, by rw [b464.2]; decide⟩)]
        obtain ⟨F506, eF506⟩ : ∃ q, q = uF F503 (r460) (103 : Int) (1) := ⟨_, rfl⟩
        rw [← eF506]
        have hC507 : HC 0 m458 tg458 ln458 F506 := by rw [eF506]; exact HC_gh hC504 (by rw [b464.2]; decide) (by decide)
        have hM508 : Fq 0 [(9, 3), (10, 0), (10, 1), (10, 2), (10, 9), (11, 8), (11, 12), (11, 13), (11, 14), (11, 15), (11, 16), (11, 17), (11, 18)] m tg F F506 := by rw [eF506]; exact Fq_x hM505 (Or.inr (by have := hX495.1; omega))
        have c509 : NP m458 tg458 F506 := by rw [eF506, eF503]; exact NP_seal hC462 c476 b464.1 b464.2 p473 (by omega)
        refine cx_po (pc_q := 73) (c := 7) (q := 4) (qi := (4 : Int)) (z := r460) rfl rfl (by decide) (by decide) rfl rfl rfl (by decide) rfl ho492.1 ho492.2 rfl ?_
        obtain ⟨F510, eF510⟩ : ∃ q, q = uF F506 (n312) (4 : Int) (r460) := ⟨_, rfl⟩
        rw [← eF510]
        have hC511 : HC 0 m458 tg458 ln458 F510 := by rw [eF510]; exact HC_fr (c := 7) (q := 4) (by decide) hC507 ho492.2 (by decide) rfl (Or.inr ⟨b464.1, b464.2⟩) ⟨fun w => absurd w (by decide), fun w => absurd w (by decide)⟩
        have hM512 : Fq 0 [(9, 3), (10, 0), (10, 1), (10, 2), (10, 9), (11, 8), (11, 12), (11, 13), (11, 14), (11, 15), (11, 16), (11, 17), (11, 18)] m tg F F510 := by rw [eF510]; exact Fq_x hM508 (Or.inr ex312)
        have c513 : NP m458 tg458 F510 := by rw [eF510]; exact NP_un hC507 c509 ho492.1 ho492.2 ((show F506 (n312) (103 : Int) = F503 (n312) (103 : Int) from by rw [eF506]; exact uF_a (by omega)).trans ((show F503 (n312) (103 : Int) = F459 (n312) (103 : Int) from by rw [eF503]; exact uF_j (by decide)).trans ((show F459 (n312) (103 : Int) = F444 (n312) (103 : Int) from hM463 _ _ ho312.1 (own_z ho312.1) (by rw [ho312.2]; rfl)).trans ((show F444 (n312) (103 : Int) = F426 (n312) (103 : Int) from hM446 _ _ ho312.1 (own_z ho312.1) (by rw [ho312.2]; rfl)).trans (show F426 (n312) (103 : Int) = 0 from zp430 _ (by decide) (by decide)))))) (by decide) (Or.inl (by decide))
        refine jx_ld (pc_q := 74) (l_q := L433) (st_q := [rv (n312)]) rfl (jl_rvn g435) ?_
        refine jx_rt (v := some (rv (n312))) rfl rfl rfl rfl rfl jr_are ?_
        have q514 : F510 (sc) (7 : Int) = F (sc) (7 : Int) := ((show F510 (sc) (7 : Int) = F506 (sc) (7 : Int) from by rw [eF510]; exact uF_j (by decide)).trans ((show F506 (sc) (7 : Int) = F503 (sc) (7 : Int) from by rw [eF506]; exact uF_j (by decide)).trans ((show F503 (sc) (7 : Int) = F459 (sc) (7 : Int) from by rw [eF503]; exact uF_j (by decide)).trans ((show F459 (sc) (7 : Int) = F444 (sc) (7 : Int) from hM463 _ _ ho315.1 (own_z ho315.1) (by rw [ho315.2]; rfl)).trans ((show F444 (sc) (7 : Int) = F426 (sc) (7 : Int) from hM446 _ _ ho315.1 (own_z ho315.1) (by rw [ho315.2]; rfl)).trans ((show F426 (sc) (7 : Int) = F312 (sc) (7 : Int) from hM428 _ _ ho315.1 (fun w => by have q1 := ho315.2; rw [w, ho312.2] at q1; exact absurd q1 (by decide)) (by rw [ho315.2]; rfl)).trans (show F312 (sc) (7 : Int) = F (sc) (7 : Int) from hf312 _ _ (ne_n o_sc en312))))))))
        have q515 : F510 (sc) (8 : Int) = F459 (sc) (8 : Int) := ((show F510 (sc) (8 : Int) = F506 (sc) (8 : Int) from by rw [eF510]; exact uF_j (by decide)).trans ((show F506 (sc) (8 : Int) = F503 (sc) (8 : Int) from by rw [eF506]; exact uF_j (by decide)).trans (show F503 (sc) (8 : Int) = F459 (sc) (8 : Int) from by rw [eF503]; exact uF_j (by decide))))
        have q516 : F510 (pg) (9 : Int) = F459 (pg) (9 : Int) := ((show F510 (pg) (9 : Int) = F506 (pg) (9 : Int) from by rw [eF510]; exact uF_j (by decide)).trans ((show F506 (pg) (9 : Int) = F503 (pg) (9 : Int) from by rw [eF506]; exact uF_j (by decide)).trans (show F503 (pg) (9 : Int) = F459 (pg) (9 : Int) from by rw [eF503]; exact uF_j (by decide))))
        have q517 : F510 (me) (3 : Int) = F459 (me) (3 : Int) := ((show F510 (me) (3 : Int) = F506 (me) (3 : Int) from by rw [eF510]; exact uF_j (by decide)).trans ((show F506 (me) (3 : Int) = F503 (me) (3 : Int) from by rw [eF506]; exact uF_j (by decide)).trans (show F503 (me) (3 : Int) = F459 (me) (3 : Int) from by rw [eF503]; exact uF_j (by decide))))
        have q518 : F510 (sc) (8 : Int) = F459 (sc) (8 : Int) := ((show F510 (sc) (8 : Int) = F506 (sc) (8 : Int) from by rw [eF510]; exact uF_j (by decide)).trans ((show F506 (sc) (8 : Int) = F503 (sc) (8 : Int) from by rw [eF506]; exact uF_j (by decide)).trans (show F503 (sc) (8 : Int) = F459 (sc) (8 : Int) from by rw [eF503]; exact uF_j (by decide))))
        have q519 : F510 (sc) (15 : Int) = F459 (sc) (15 : Int) := ((show F510 (sc) (15 : Int) = F506 (sc) (15 : Int) from by rw [eF510]; exact uF_j (by decide)).trans ((show F506 (sc) (15 : Int) = F503 (sc) (15 : Int) from by rw [eF506]; exact uF_j (by decide)).trans (show F503 (sc) (15 : Int) = F459 (sc) (15 : Int) from by rw [eF503]; exact uF_j (by decide))))
        have q520 : tz (F510 (sc) (15 : Int)) = tz (F459 (sc) (15 : Int)) := by rw [q519]
        have q521 := tz_b (F459 (sc) (15 : Int))
        have q522 : F510 (sc) (14 : Int) = F459 (sc) (14 : Int) := ((show F510 (sc) (14 : Int) = F506 (sc) (14 : Int) from by rw [eF510]; exact uF_j (by decide)).trans ((show F506 (sc) (14 : Int) = F503 (sc) (14 : Int) from by rw [eF506]; exact uF_j (by decide)).trans (show F503 (sc) (14 : Int) = F459 (sc) (14 : Int) from by rw [eF503]; exact uF_j (by decide))))
        have q523 : lz (F510 (sc) (14 : Int)) = lz (F459 (sc) (14 : Int)) := by rw [q522]
        have q524 := lz_b (F459 (sc) (14 : Int))
        have q525 : F510 (pg) (9 : Int) = F459 (pg) (9 : Int) := ((show F510 (pg) (9 : Int) = F506 (pg) (9 : Int) from by rw [eF510]; exact uF_j (by decide)).trans ((show F506 (pg) (9 : Int) = F503 (pg) (9 : Int) from by rw [eF506]; exact uF_j (by decide)).trans (show F503 (pg) (9 : Int) = F459 (pg) (9 : Int) from by rw [eF503]; exact uF_j (by decide))))
        have q526 : F510 (n312) (0 : Int) = F426 (n312) (0 : Int) := ((show F510 (n312) (0 : Int) = F506 (n312) (0 : Int) from by rw [eF510]; exact uF_j (by decide)).trans ((show F506 (n312) (0 : Int) = F503 (n312) (0 : Int) from by rw [eF506]; exact uF_j (by decide)).trans ((show F503 (n312) (0 : Int) = F459 (n312) (0 : Int) from by rw [eF503]; exact uF_j (by decide)).trans ((show F459 (n312) (0 : Int) = F444 (n312) (0 : Int) from hM463 _ _ ho312.1 (own_z ho312.1) (by rw [ho312.2]; rfl)).trans (show F444 (n312) (0 : Int) = F426 (n312) (0 : Int) from hM446 _ _ ho312.1 (own_z ho312.1) (by rw [ho312.2]; rfl))))))
        have q527 : F510 (me) (3 : Int) = F459 (me) (3 : Int) := ((show F510 (me) (3 : Int) = F506 (me) (3 : Int) from by rw [eF510]; exact uF_j (by decide)).trans ((show F506 (me) (3 : Int) = F503 (me) (3 : Int) from by rw [eF506]; exact uF_j (by decide)).trans (show F503 (me) (3 : Int) = F459 (me) (3 : Int) from by rw [eF503]; exact uF_j (by decide))))
        exact Or.inl ⟨m458, tg458, ln458, F510, (n312), rfl, rfl, hX495, hC511, hM512, ⟨ho492.1, ho492.2⟩, by omega, by omega, by omega, by omega, by omega, by omega, by omega, by omega, (WK_i (K := 18 - 2 * F me (3 : Int)) ((show F510 (n312) (103 : Int) = F506 (n312) (103 : Int) from by rw [eF510]; exact uF_j (by decide)).trans ((show F506 (n312) (103 : Int) = F503 (n312) (103 : Int) from by rw [eF506]; exact uF_a (by omega)).trans ((show F503 (n312) (103 : Int) = F459 (n312) (103 : Int) from by rw [eF503]; exact uF_j (by decide)).trans ((show F459 (n312) (103 : Int) = F444 (n312) (103 : Int) from hM463 _ _ ho312.1 (own_z ho312.1) (by rw [ho312.2]; rfl)).trans ((show F444 (n312) (103 : Int) = F426 (n312) (103 : Int) from hM446 _ _ ho312.1 (own_z ho312.1) (by rw [ho312.2]; rfl)).trans (show F426 (n312) (103 : Int) = 0 from zp430 _ (by decide) (by decide))))))) ((show F510 (n312) (101 : Int) = F506 (n312) (101 : Int) from by rw [eF510]; exact uF_j (by decide)).trans ((show F506 (n312) (101 : Int) = F503 (n312) (101 : Int) from by rw [eF506]; exact uF_j (by decide)).trans ((show F503 (n312) (101 : Int) = F459 (n312) (101 : Int) from by rw [eF503]; exact uF_j (by decide)).trans ((show F459 (n312) (101 : Int) = F444 (n312) (101 : Int) from hM463 _ _ ho312.1 (own_z ho312.1) (by rw [ho312.2]; rfl)).trans ((show F444 (n312) (101 : Int) = F426 (n312) (101 : Int) from hM446 _ _ ho312.1 (own_z ho312.1) (by rw [ho312.2]; rfl)).trans (show F426 (n312) (101 : Int) = 0 from zp430 _ (by decide) (by decide))))))) ((show F510 (n312) (8 : Int) = F506 (n312) (8 : Int) from by rw [eF510]; exact uF_j (by decide)).trans ((show F506 (n312) (8 : Int) = F503 (n312) (8 : Int) from by rw [eF506]; exact uF_j (by decide)).trans ((show F503 (n312) (8 : Int) = F459 (n312) (8 : Int) from by rw [eF503]; exact uF_j (by decide)).trans ((show F459 (n312) (8 : Int) = F444 (n312) (8 : Int) from hM463 _ _ ho312.1 (own_z ho312.1) (by rw [ho312.2]; rfl)).trans ((show F444 (n312) (8 : Int) = F426 (n312) (8 : Int) from hM446 _ _ ho312.1 (own_z ho312.1) (by rw [ho312.2]; rfl)).trans (show F426 (n312) (8 : Int) = 0 from zp430 _ (by decide) (by decide))))))) (Or.inr (by rw [show F510 (n312) (4 : Int) = r460 from (show F510 (n312) (4 : Int) = r460 from by rw [eF510]; exact uF_e)]; exact ⟨((show F510 (r460) (103 : Int) = F506 (r460) (103 : Int) from by rw [eF510]; exact uF_j (by decide)).trans (show F506 (r460) (103 : Int) = 1 from by rw [eF506]; exact uF_e)), (by rw [show F510 (r460) (100 : Int) = 17 - 2 * F me (3 : Int) from ((show F510 (r460) (100 : Int) = F506 (r460) (100 : Int) from by rw [eF510]; exact uF_j (by decide)).trans ((show F506 (r460) (100 : Int) = F503 (r460) (100 : Int) from by rw [eF506]; exact uF_j (by decide)).trans (show F503 (r460) (100 : Int) = 17 - 2 * F me (3 : Int) from by rw [eF503]; exact uF_e)))]; omega), (by rw [show F510 (r460) (100 : Int) = 17 - 2 * F me (3 : Int) from ((show F510 (r460) (100 : Int) = F506 (r460) (100 : Int) from by rw [eF510]; exact uF_j (by decide)).trans ((show F506 (r460) (100 : Int) = F503 (r460) (100 : Int) from by rw [eF506]; exact uF_j (by decide)).trans (show F503 (r460) (100 : Int) = 17 - 2 * F me (3 : Int) from by rw [eF503]; exact uF_e)))]; omega)⟩)) (Or.inl ((show F510 (n312) (5 : Int) = F506 (n312) (5 : Int) from by rw [eF510]; exact uF_j (by decide)).trans ((show F506 (n312) (5 : Int) = F503 (n312) (5 : Int) from by rw [eF506]; exact uF_j (by decide)).trans ((show F503 (n312) (5 : Int) = F459 (n312) (5 : Int) from by rw [eF503]; exact uF_j (by decide)).trans ((show F459 (n312) (5 : Int) = F444 (n312) (5 : Int) from hM463 _ _ ho312.1 (own_z ho312.1) (by rw [ho312.2]; rfl)).trans ((show F444 (n312) (5 : Int) = F426 (n312) (5 : Int) from hM446 _ _ ho312.1 (own_z ho312.1) (by rw [ho312.2]; rfl)).trans (show F426 (n312) (5 : Int) = 0 from zp430 _ (by decide) (by decide)))))))) (Or.inl ((show F510 (n312) (6 : Int) = F506 (n312) (6 : Int) from by rw [eF510]; exact uF_j (by decide)).trans ((show F506 (n312) (6 : Int) = F503 (n312) (6 : Int) from by rw [eF506]; exact uF_j (by decide)).trans ((show F503 (n312) (6 : Int) = F459 (n312) (6 : Int) from by rw [eF503]; exact uF_j (by decide)).trans ((show F459 (n312) (6 : Int) = F444 (n312) (6 : Int) from hM463 _ _ ho312.1 (own_z ho312.1) (by rw [ho312.2]; rfl)).trans ((show F444 (n312) (6 : Int) = F426 (n312) (6 : Int) from hM446 _ _ ho312.1 (own_z ho312.1) (by rw [ho312.2]; rfl)).trans (show F426 (n312) (6 : Int) = 0 from zp430 _ (by decide) (by decide)))))))) (Or.inl ((show F510 (n312) (7 : Int) = F506 (n312) (7 : Int) from by rw [eF510]; exact uF_j (by decide)).trans ((show F506 (n312) (7 : Int) = F503 (n312) (7 : Int) from by rw [eF506]; exact uF_j (by decide)).trans ((show F503 (n312) (7 : Int) = F459 (n312) (7 : Int) from by rw [eF503]; exact uF_j (by decide)).trans ((show F459 (n312) (7 : Int) = F444 (n312) (7 : Int) from hM463 _ _ ho312.1 (own_z ho312.1) (by rw [ho312.2]; rfl)).trans ((show F444 (n312) (7 : Int) = F426 (n312) (7 : Int) from hM446 _ _ ho312.1 (own_z ho312.1) (by rw [ho312.2]; rfl)).trans (show F426 (n312) (7 : Int) = 0 from zp430 _ (by decide) (by decide)))))))) (Or.inl (by rw [show F510 (n312) (0 : Int) = F426 (n312) (0 : Int) from ((show F510 (n312) (0 : Int) = F506 (n312) (0 : Int) from by rw [eF510]; exact uF_j (by decide)).trans ((show F506 (n312) (0 : Int) = F503 (n312) (0 : Int) from by rw [eF506]; exact uF_j (by decide)).trans ((show F503 (n312) (0 : Int) = F459 (n312) (0 : Int) from by rw [eF503]; exact uF_j (by decide)).trans ((show F459 (n312) (0 : Int) = F444 (n312) (0 : Int) from hM463 _ _ ho312.1 (own_z ho312.1) (by rw [ho312.2]; rfl)).trans (show F444 (n312) (0 : Int) = F426 (n312) (0 : Int) from hM446 _ _ ho312.1 (own_z ho312.1) (by rw [ho312.2]; rfl))))))]; omega))), by omega, by omega, c513, c499, trivial⟩
theorem PEx_all (X : jX) : ∀ k, PEx X k
  | 0 => @k_LParser_expression X 0 (fun h => absurd h (by decide))
  | k + 1 => @k_LParser_expression X (k + 1) (fun _ => PEx_all X k)
