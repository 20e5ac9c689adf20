def PPx (X : jX) (kk : Nat) : Prop := ∀ ⦃dd : Nat⦄ ⦃R : Nat → jC⦄ ⦃m : Nat⦄ ⦃tg ln : Int → Int⦄ ⦃F : Int → Int → Int⦄ ⦃me lv : Int⦄ (hd : 6 * kk + 86 ≤ dd) (hC : HC 0 m tg ln F) ⦃sc pg : Int⦄ (o_sc : own m sc) (t_sc : tg sc = 11) (e_sc : F me (1 : Int) = sc) (o_pg : own m pg) (t_pg : tg pg = 10) (e_pg : F me (0 : Int) = pg) (o_me : own m me) (t_me : tg me = 9) (h_lv : (-2147483648 : Int) ≤ lv ∧ lv ≤ 2147483647) (p_0 : F sc (8 : Int) + 2 * tz (F sc (15 : Int)) ≤ F sc (7 : Int) + 1) (p_1 : F sc (8 : Int) + 2 * lz (F sc (14 : Int)) ≤ F sc (7 : Int) + 1) (p_2 : 0 ≤ lv) (p_3 : 18 ≤ (kk : Int) + lv) (c_NP : NP m tg F), wk X dd 177 [rv me, .int (i32 lv)] (cV R m tg ln F) (fun o V_q => (∃ (m_q : Nat) (tg_q ln_q : Int → Int) (F_q : Int → Int → Int) (r : Int), V_q = cV R m_q tg_q ln_q F_q ∧ o = .inl (some (rv r)) ∧ Ex m tg ln m_q tg_q ln_q ∧ HC 0 m_q tg_q ln_q F_q ∧ Fq 0 [(7, 15), (9, 2), (9, 3), (10, 0), (10, 1), (10, 2), (10, 8), (10, 9), (11, 8), (11, 12), (11, 13), (11, 14), (11, 15), (11, 16), (11, 17), (11, 18)] m tg F F_q ∧ (own m_q r ∧ tg_q r = 8) ∧ (F_q sc (8 : Int) + 2 * tz (F_q sc (15 : Int)) ≤ F sc (7 : Int) + 1) ∧ (F_q sc (8 : Int) + 2 * lz (F_q sc (14 : Int)) ≤ F sc (7 : Int) + 1) ∧ (F sc (8 : Int) ≤ F_q sc (8 : Int)) ∧ (szD m_q tg_q ln_q = szD m tg ln + 25 * ((m_q : Int) - (m : Int))) ∧ ((m_q : Int) ≤ (m : Int) + (F_q sc (8 : Int) - F sc (8 : Int)) + (0)) ∧ (F_q pg (9 : Int) ≤ F pg (9 : Int) + ((m_q : Int) - (m : Int))) ∧ (64 + (m : Int) ≤ r) ∧ (F_q r (103 : Int) = 1) ∧ (F_q r (100 : Int) = 60 - 2 * lv) ∧ (F_q r (101 : Int) = 0) ∧ (F_q r (8 : Int) = 0) ∧ (F_q me (2 : Int) = F me (2 : Int)) ∧ (NP m_q tg_q F_q) ∧ (NM m m_q tg_q) ∧ True) ∨ (∃ (m_q : Nat) (tg_q ln_q : Int → Int) (F_q : Int → Int → Int) (x : Nat), V_q = cV R m_q tg_q ln_q F_q ∧ o = .inr x ∧ Ex m tg ln m_q tg_q ln_q ∧ HC 0 m_q tg_q ln_q F_q ∧ Fq 0 [(7, 15), (9, 2), (9, 3), (10, 0), (10, 1), (10, 2), (10, 8), (10, 9), (11, 8), (11, 12), (11, 13), (11, 14), (11, 15), (11, 16), (11, 17), (11, 18)] m tg F F_q ∧ (own m_q (x : Int)) ∧ (tg_q (x : Int) = 16) ∧ (F_q pg (0 : Int) ≠ 0) ∧ (szD m_q tg_q ln_q = szD m tg ln + 25 * ((m_q : Int) - (m : Int))) ∧ ((m_q : Int) ≤ (m : Int) + (F_q sc (8 : Int) - F sc (8 : Int)) + (3)) ∧ (F_q sc (8 : Int) ≤ F sc (7 : Int) + 1) ∧ (NP m_q tg_q F_q) ∧ (NM m m_q tg_q) ∧ True))
set_option maxRecDepth 20000 in
set_option maxHeartbeats 4000000 in
theorem k_LParser_below {X : jX} {kk : Nat} (hE : 1 ≤ kk → PPx X (kk - 1)) {dd : Nat} {R : Nat → jC} {m : Nat} {tg ln : Int → Int} {F : Int → Int → Int} {me ix lv : Int} (hd : 6 * kk + 81 ≤ dd) (hC : HC 0 m tg ln F) {sc pg : Int} (o_sc : own m sc) (t_sc : tg sc = 11) (e_sc : F me (1 : Int) = sc) (o_pg : own m pg) (t_pg : tg pg = 10) (e_pg : F me (0 : Int) = pg) (o_me : own m me) (t_me : tg me = 9) (o_ix : own m ix) (t_ix : tg ix = 7) (h_lv : (-2147483648 : Int) ≤ lv ∧ lv ≤ 2147483647) (p_0 : F sc (8 : Int) + 2 * tz (F sc (15 : Int)) ≤ F sc (7 : Int) + 1) (p_1 : F sc (8 : Int) + 2 * lz (F sc (14 : Int)) ≤ F sc (7 : Int) + 1) (p_2 : F me (2 : Int) < ix) (p_3 : 0 ≤ lv) (p_4 : lv ≤ 16) (p_5 : 19 ≤ (kk : Int) + lv) (c_NP : NP m tg F) : wk X dd 183 [rv me, rv ix, .int (i32 lv)] (cV R m tg ln F) (fun o V_q => (∃ (m_q : Nat) (tg_q ln_q : Int → Int) (F_q : Int → Int → Int) (r : Int), V_q = cV R m_q tg_q ln_q F_q ∧ o = .inl (some (rv r)) ∧ Ex m tg ln m_q tg_q ln_q ∧ HC 0 m_q tg_q ln_q F_q ∧ Fq 0 [(7, 15), (9, 2), (9, 3), (10, 0), (10, 1), (10, 2), (10, 8), (10, 9), (11, 8), (11, 12), (11, 13), (11, 14), (11, 15), (11, 16), (11, 17), (11, 18)] m tg F F_q ∧ (own m_q r ∧ tg_q r = 8) ∧ (F_q sc (8 : Int) + 2 * tz (F_q sc (15 : Int)) ≤ F sc (7 : Int) + 1) ∧ (F_q sc (8 : Int) + 2 * lz (F_q sc (14 : Int)) ≤ F sc (7 : Int) + 1) ∧ (F sc (8 : Int) ≤ F_q sc (8 : Int)) ∧ (szD m_q tg_q ln_q = szD m tg ln + 25 * ((m_q : Int) - (m : Int))) ∧ ((m_q : Int) ≤ (m : Int) + (F_q sc (8 : Int) - F sc (8 : Int)) + (0)) ∧ (F_q pg (9 : Int) ≤ F pg (9 : Int) + ((m_q : Int) - (m : Int))) ∧ (64 + (m : Int) ≤ r) ∧ (F_q r (103 : Int) = 1) ∧ (F_q r (100 : Int) = 60 - 2 * lv) ∧ (F_q r (101 : Int) = 0) ∧ (F_q r (8 : Int) = 0) ∧ (F_q me (2 : Int) = F me (2 : Int)) ∧ (NP m_q tg_q F_q) ∧ (NM m m_q tg_q) ∧ True) ∨ (∃ (m_q : Nat) (tg_q ln_q : Int → Int) (F_q : Int → Int → Int) (x : Nat), V_q = cV R m_q tg_q ln_q F_q ∧ o = .inr x ∧ Ex m tg ln m_q tg_q ln_q ∧ HC 0 m_q tg_q ln_q F_q ∧ Fq 0 [(7, 15), (9, 2), (9, 3), (10, 0), (10, 1), (10, 2), (10, 8), (10, 9), (11, 8), (11, 12), (11, 13), (11, 14), (11, 15), (11, 16), (11, 17), (11, 18)] m tg F F_q ∧ (own m_q (x : Int)) ∧ (tg_q (x : Int) = 16) ∧ (F_q pg (0 : Int) ≠ 0) ∧ (szD m_q tg_q ln_q = szD m tg ln + 25 * ((m_q : Int) - (m : Int))) ∧ ((m_q : Int) ≤ (m : Int) + (F_q sc (8 : Int) - F sc (8 : Int)) + (3)) ∧ (F_q sc (8 : Int) ≤ F sc (7 : Int) + 1) ∧ (NP m_q tg_q F_q) ∧ (NM m m_q tg_q) ∧ True)) := by
  obtain ⟨d, rfl⟩ : ∃ d, dd = d + 1 := ⟨dd - 1, by omega⟩
  refine wk_of (e := jm183) rfl (by rw [jS_r, jS_r, jS_i, jS_0]; exact Nat.le_of_ble_eq_true rfl) ?_
  rw [la_r, la_r, la_i, la_0]
  show wj X d jm183 (0, [(0, rv (me)), (1, rv (ix)), (2, .int (i32 (lv)))], [], cV R m tg ln F) _
  have hM0 : Fq 0 [(7, 15), (9, 2), (9, 3), (10, 0), (10, 1), (10, 2), (10, 8), (10, 9), (11, 8), (11, 12), (11, 13), (11, 14), (11, 15), (11, 16), (11, 17), (11, 18)] m tg F F := Fq_r
  have hX0 : Ex m tg ln m tg ln := Ex_r
  obtain ⟨L0, eL0⟩ : ∃ q : jL, q = [(0, rv (me)), (1, rv (ix)), (2, .int (i32 (lv)))] := ⟨_, rfl⟩
  rw [← eL0]
  have g1 : jGet L0 0 = some (rv (me)) := eL0 ▸ (rfl : jGet [(0, rv (me)), (1, rv (ix)), (2, .int (i32 (lv)))] 0 = some (rv (me)))
  have g2 : jGet L0 1 = some (rv (ix)) := eL0 ▸ (rfl : jGet [(0, rv (me)), (1, rv (ix)), (2, .int (i32 (lv)))] 1 = some (rv (ix)))
  have g3 : jGet L0 2 = some (.int (i32 (lv))) := eL0 ▸ (rfl : jGet [(0, rv (me)), (1, rv (ix)), (2, .int (i32 (lv)))] 2 = some (.int (i32 (lv))))
  clear eL0
  have tb0 := tz_b (F sc (15 : Int))
  have lb0 := lz_b (F sc (14 : Int))
  have ob0 : (0 : Int) ≤ F me (3 : Int) ∧ F me (3 : Int) ≤ 8 := HC_i (c := 8) (q := 3) hC o_me t_me (by decide) rfl
  have tp0 : F me (2 : Int) < 64 + (m : Int) := by
    have z : F me (2 : Int) = 0 ∨ (own m (F me (2 : Int)) ∧ tg (F me (2 : Int)) = 7) := HC_r (c := 8) (q := 2) hC o_me t_me (by decide) rfl
    rcases z with w | w
    · omega
    · exact w.1.2.1
  have nz_ix := own_z o_ix
  refine jx_ld (pc_q := 1) (l_q := L0) (st_q := [rv (me)]) rfl (jl_rvn g1) ?_
  refine cx_gr (pc_q := 4) (c := 8) (q := 2) (v := F (me) (2 : Int)) rfl rfl (by decide) (by decide) rfl rfl o_me t_me rfl ?_
  have y4 : F (me) (2 : Int) = 0 ∨ (own m (F (me) (2 : Int)) ∧ tg (F (me) (2 : Int)) = 7) := by have z := HC_r (c := 8) (q := 2) hC o_me t_me (by decide) rfl; rw [show F (me) ((2 : Nat) : Int) = F (me) (2 : Int) from rfl] at z; exact z
  refine jx_ld (pc_q := 5) (l_q := jSto1 L0 3 (rv (F (me) (2 : Int)))) (st_q := []) rfl (js_rvn (by decide)) ?_
  obtain ⟨L5, eL5⟩ : ∃ q : jL, q = jSto1 L0 3 (rv (F (me) (2 : Int))) := ⟨_, rfl⟩
  rw [← eL5]
  have g6 : jGet L5 0 = some (rv (me)) := eL5 ▸ jg_nr (by decide) g1
  have g7 : jGet L5 1 = some (rv (ix)) := eL5 ▸ jg_nr (by decide) g2
  have g8 : jGet L5 2 = some (.int (i32 (lv))) := eL5 ▸ jg_ne (by decide) g3 rfl
  have g9 : jGet L5 3 = some (rv (F (me) (2 : Int))) := eL5 ▸ jg_eq
  clear eL5
  refine jx_ld (pc_q := 6) (l_q := L5) (st_q := [rv (me)]) rfl (jl_rvn g6) ?_
  refine jx_ld (pc_q := 7) (l_q := L5) (st_q := [rv (ix), rv (me)]) rfl (jl_rvn g7) ?_
  refine cx_vi (c := 8) (a := me) (st := []) (as := [rv (ix)]) rfl rfl rfl o_me t_me (by decide) rfl ⟨rfl, rfl, (Nat.le_of_ble_eq_true rfl)⟩ rfl (k_LParser_show (dd := d) (R := R) (m := m) (tg := tg) (ln := ln) (F := F) (me := me) (nm := ix) (hd := by omega) (hC := hC) (o_me := o_me) (t_me := t_me) (o_nm := o_ix) (t_nm := t_ix) (sc := sc) (pg := pg) (o_sc := o_sc) (t_sc := t_sc) (e_sc := e_sc) (o_pg := o_pg) (t_pg := t_pg) (e_pg := e_pg) (p_0 := by omega) (c_NP := c_NP)) (fun o V_q hq => ?_)
  obtain ⟨F10, rfl, rfl, hC11, hM12, p13, c14, c15, -⟩ := hq
  have hM16 : Fq 0 [(7, 15), (9, 2), (9, 3), (10, 0), (10, 1), (10, 2), (10, 8), (10, 9), (11, 8), (11, 12), (11, 13), (11, 14), (11, 15), (11, 16), (11, 17), (11, 18)] m tg F F10 := Fq_t (ln := ln) (ln1 := ln) hM0 hX0 hM12 (by decide) (Or.inl rfl)
  refine Or.inl ⟨rfl, ?_⟩
  refine jx_ld (pc_q := 11) (l_q := L5) (st_q := [rv (me)]) rfl (jl_rvn g6) ?_
  refine jx_ld (pc_q := 12) (l_q := L5) (st_q := [.int (i32 (lv)), rv (me)]) rfl (jl_iloadn g8) ?_
  have q17 : F10 (sc) (8 : Int) = F (sc) (8 : Int) := (show F10 (sc) (8 : Int) = F (sc) (8 : Int) from hM12 _ _ o_sc (own_z o_sc) (by rw [t_sc]; rfl))
  have q18 : F10 (sc) (15 : Int) = F (sc) (15 : Int) := (show F10 (sc) (15 : Int) = F (sc) (15 : Int) from hM12 _ _ o_sc (own_z o_sc) (by rw [t_sc]; rfl))
  have q19 : tz (F10 (sc) (15 : Int)) = tz (F (sc) (15 : Int)) := by rw [q18]
  have q20 := tz_b (F (sc) (15 : Int))
  have q21 : F10 (sc) (7 : Int) = F (sc) (7 : Int) := (show F10 (sc) (7 : Int) = F (sc) (7 : Int) from hM12 _ _ o_sc (own_z o_sc) (by rw [t_sc]; rfl))
  have q22 : F10 (sc) (14 : Int) = F (sc) (14 : Int) := (show F10 (sc) (14 : Int) = F (sc) (14 : Int) from hM12 _ _ o_sc (own_z o_sc) (by rw [t_sc]; rfl))
  have q23 : lz (F10 (sc) (14 : Int)) = lz (F (sc) (14 : Int)) := by rw [q22]
  have q24 := lz_b (F (sc) (14 : Int))
  have q25 : F10 (pg) (9 : Int) = F (pg) (9 : Int) := (show F10 (pg) (9 : Int) = F (pg) (9 : Int) from hM12 _ _ o_pg (own_z o_pg) (by rw [t_pg]; rfl))
  have q26 : F10 (me) (2 : Int) = ix := p13
  have hE27 := hE (by omega)
  refine cx_vi (c := 8) (a := me) (st := []) (as := [.int (i32 (lv))]) rfl rfl rfl o_me t_me (by decide) rfl ⟨rfl, rfl, (Nat.le_of_ble_eq_true rfl)⟩ rfl (hE27 (dd := d) (R := R) (m := m) (tg := tg) (ln := ln) (F := F10) (me := me) (lv := lv) (hd := by omega) (hC := hC11) (o_me := o_me) (t_me := t_me) (h_lv := by omega) (sc := sc) (pg := pg) (o_sc := o_sc) (t_sc := t_sc) (e_sc := ((show F10 (me) (1 : Int) = F (me) (1 : Int) from hM12 _ _ o_me (own_z o_me) (by rw [t_me]; rfl)).trans e_sc)) (o_pg := o_pg) (t_pg := t_pg) (e_pg := ((show F10 (me) (0 : Int) = F (me) (0 : Int) from hM12 _ _ o_me (own_z o_me) (by rw [t_me]; rfl)).trans e_pg)) (p_0 := by omega) (p_1 := by omega) (p_2 := by omega) (p_3 := by omega) (c_NP := c14)) (fun o V_q hq => ?_)
  obtain ⟨m28, tg28, ln28, F29, r30, rfl, rfl, hx31, hC32, hM33, b34, p35, p36, p37, p38, p39, p40, p41, p42, p43, p44, p45, p46, c47, c48, -⟩ | ⟨m49, tg49, ln49, F49, x49, rfl, rfl, hx49, hC49, hM49, ho49, ht49, p50, p51, p52, p53, c54, c55, -⟩ := hq
  rotate_left
  ·
    have c56 : NM m m49 tg49 := NM_t NM_0 hx49 c55
    have lm57 := hx49.1
    refine Or.inr (Or.inr (Or.inr ⟨_, _, rfl, cx_exc (c := 15) ho49 ht49 (by decide), rfl, ?_⟩))
    have q58 : F10 (sc) (8 : Int) = F (sc) (8 : Int) := q17
    have q59 : F10 (sc) (7 : Int) = F (sc) (7 : Int) := q21
    exact Or.inr ⟨m49, tg49, ln49, F49, x49, rfl, rfl, Ex_t hX0 hx49, hC49, Fq_t (ln := ln) (ln1 := ln) hM16 hX0 hM49 (by decide) (Or.inl rfl), (And.intro ho49 ht49).1, (And.intro ho49 ht49).2, by omega, by omega, by omega, by omega, c54, c56, trivial⟩
  have hM60 : Fq 0 [(7, 15), (9, 2), (9, 3), (10, 0), (10, 1), (10, 2), (10, 8), (10, 9), (11, 8), (11, 12), (11, 13), (11, 14), (11, 15), (11, 16), (11, 17), (11, 18)] m tg F F29 := Fq_t (ln := ln) (ln1 := ln) hM16 hX0 hM33 (by decide) (Or.inl rfl)
  have lm61 := hx31.1
  have lt62 : ix < 64 + (m : Int) := o_ix.2.1
  have lt63 : F (me) (2 : Int) < 64 + (m : Int) := by rcases y4 with w | w; (· omega); exact w.1.2.1
  have ho64 : own m28 (me) ∧ tg28 (me) = 9 := Ex_o hx31 ⟨o_me, t_me⟩
  have ho65 : own m28 (ix) ∧ tg28 (ix) = 7 := Ex_o hx31 ⟨o_ix, t_ix⟩
  have y66 : F (me) (2 : Int) = 0 ∨ (own m28 (F (me) (2 : Int)) ∧ tg28 (F (me) (2 : Int)) = 7) := Ex_z hx31 y4
  have ho67 : own m28 (sc) ∧ tg28 (sc) = 11 := Ex_o hx31 ⟨o_sc, t_sc⟩
  have ho68 : own m28 (pg) ∧ tg28 (pg) = 10 := Ex_o hx31 ⟨o_pg, t_pg⟩
  have hX69 := Ex_t hX0 hx31
  have c70 : NM m m28 tg28 := NM_t NM_0 hx31 c48
  refine Or.inr (Or.inl ⟨_, rfl, ?_⟩)
  refine jx_ld (pc_q := 17) (l_q := jSto1 L5 4 (rv (r30))) (st_q := []) rfl (js_rv (by decide)) ?_
  obtain ⟨L71, eL71⟩ : ∃ q : jL, q = jSto1 L5 4 (rv (r30)) := ⟨_, rfl⟩
  rw [← eL71]
  have g72 : jGet L71 0 = some (rv (me)) := eL71 ▸ jg_nr (by decide) g6
  have g73 : jGet L71 1 = some (rv (ix)) := eL71 ▸ jg_nr (by decide) g7
  have g74 : jGet L71 2 = some (.int (i32 (lv))) := eL71 ▸ jg_ne (by decide) g8 rfl
  have g75 : jGet L71 3 = some (rv (F (me) (2 : Int))) := eL71 ▸ jg_nr (by decide) g9
  have g76 : jGet L71 4 = some (rv (r30)) := eL71 ▸ jg_eq
  clear eL71
  refine jx_ld (pc_q := 18) (l_q := L71) (st_q := [rv (me)]) rfl (jl_rvn g72) ?_
  refine jx_ld (pc_q := 19) (l_q := L71) (st_q := [rv (F (me) (2 : Int)), rv (me)]) rfl (jl_rvn g75) ?_
  refine cx_po (pc_q := 22) (c := 8) (q := 2) (qi := (2 : Int)) (z := F (me) (2 : Int)) rfl rfl (by decide) (by decide) rfl rfl rfl (by decide) rfl ho64.1 ho64.2 rfl ?_
  obtain ⟨F77, eF77⟩ : ∃ q, q = uF F29 (me) (2 : Int) (F (me) (2 : Int)) := ⟨_, rfl⟩
  rw [← eF77]
  have hC78 : HC 0 m28 tg28 ln28 F77 := by rw [eF77]; exact HC_fr (c := 8) (q := 2) (by decide) hC32 ho64.2 (by decide) rfl y66 ⟨fun w => absurd w (by decide), fun w => absurd w (by decide)⟩
  have hM79 : Fq 0 [(7, 15), (9, 2), (9, 3), (10, 0), (10, 1), (10, 2), (10, 8), (10, 9), (11, 8), (11, 12), (11, 13), (11, 14), (11, 15), (11, 16), (11, 17), (11, 18)] m tg F F77 := by rw [eF77]; exact Fq_p hM60 ho64.2 (fun w => (hX69.2 _ w).1) rfl
  have c80 : NP m28 tg28 F77 := by rw [eF77]; exact NP_u hC32 c47 ho64.2 (by omega)
  refine jx_ld (pc_q := 24) (l_q := L71) (st_q := [rv (r30)]) rfl (jl_rv g76) ?_
  refine jx_rt (v := some (rv (r30))) rfl rfl rfl rfl rfl jr_are ?_
  have q81 : F77 (sc) (7 : Int) = F (sc) (7 : Int) := ((show F77 (sc) (7 : Int) = F29 (sc) (7 : Int) from by rw [eF77]; exact uF_j (by decide)).trans ((show F29 (sc) (7 : Int) = F10 (sc) (7 : Int) from hM33 _ _ o_sc (own_z o_sc) (by rw [t_sc]; rfl)).trans q21))
  have q82 : F77 (sc) (8 : Int) = F29 (sc) (8 : Int) := (show F77 (sc) (8 : Int) = F29 (sc) (8 : Int) from by rw [eF77]; exact uF_j (by decide))
  have q83 : F77 (pg) (9 : Int) = F29 (pg) (9 : Int) := (show F77 (pg) (9 : Int) = F29 (pg) (9 : Int) from by rw [eF77]; exact uF_j (by decide))
  have q84 : F77 (me) (2 : Int) = F (me) (2 : Int) := (show F77 (me) (2 : Int) = F (me) (2 : Int) from by rw [eF77]; exact uF_e)
  have q85 : F77 (sc) (8 : Int) = F29 (sc) (8 : Int) := q82
  have q86 : F77 (sc) (15 : Int) = F29 (sc) (15 : Int) := (show F77 (sc) (15 : Int) = F29 (sc) (15 : Int) from by rw [eF77]; exact uF_j (by decide))
  have q87 : tz (F77 (sc) (15 : Int)) = tz (F29 (sc) (15 : Int)) := by rw [q86]
  have q88 := tz_b (F29 (sc) (15 : Int))
  have q89 : F77 (sc) (14 : Int) = F29 (sc) (14 : Int) := (show F77 (sc) (14 : Int) = F29 (sc) (14 : Int) from by rw [eF77]; exact uF_j (by decide))
  have q90 : lz (F77 (sc) (14 : Int)) = lz (F29 (sc) (14 : Int)) := by rw [q89]
  have q91 := lz_b (F29 (sc) (14 : Int))
  have q92 : F77 (pg) (9 : Int) = F29 (pg) (9 : Int) := q83
  have q93 : F77 (r30) (103 : Int) = F29 (r30) (103 : Int) := (show F77 (r30) (103 : Int) = F29 (r30) (103 : Int) from by rw [eF77]; exact uF_j (by decide))
  have q94 : F77 (r30) (100 : Int) = F29 (r30) (100 : Int) := (show F77 (r30) (100 : Int) = F29 (r30) (100 : Int) from by rw [eF77]; exact uF_j (by decide))
  have q95 : F77 (r30) (101 : Int) = F29 (r30) (101 : Int) := (show F77 (r30) (101 : Int) = F29 (r30) (101 : Int) from by rw [eF77]; exact uF_j (by decide))
  have q96 : F77 (r30) (8 : Int) = F29 (r30) (8 : Int) := (show F77 (r30) (8 : Int) = F29 (r30) (8 : Int) from by rw [eF77]; exact uF_j (by decide))
  have q97 : F77 (me) (2 : Int) = F (me) (2 : Int) := q84
  exact Or.inl ⟨m28, tg28, ln28, F77, (r30), rfl, rfl, hX69, hC78, hM79, ⟨b34.1, b34.2⟩, by omega, by omega, by omega, by omega, by omega, by omega, by omega, by omega, by omega, by omega, by omega, by omega, c80, c70, trivial⟩
set_option maxRecDepth 20000 in
set_option maxHeartbeats 4000000 in
theorem k_LParser_readChildren_at_6 {X : jX} {kk : Nat} (hE : 1 ≤ kk → PPx X (kk - 1)) {d : Nat} {R : Nat → jC} {m : Nat} {tg ln : Int → Int} {F : Int → Int → Int} {me p lv mo : Int} (hd : 6 * kk + 81 ≤ d + 1) (hC : HC 0 m tg ln F) {sc pg : Int} (o_sc : own m sc) (t_sc : tg sc = 11) (e_sc : F me (1 : Int) = sc) (o_pg : own m pg) (t_pg : tg pg = 10) (e_pg : F me (0 : Int) = pg) (o_me : own m me) (t_me : tg me = 9) (o_p : own m p) (t_p : tg p = 8) (h_lv : (-2147483648 : Int) ≤ lv ∧ lv ≤ 2147483647) (h_mo : (-2147483648 : Int) ≤ mo ∧ mo ≤ 2147483647) (p_0 : F sc (8 : Int) + 2 * tz (F sc (15 : Int)) ≤ F sc (7 : Int) + 1) (p_1 : F sc (8 : Int) + 2 * lz (F sc (14 : Int)) ≤ F sc (7 : Int) + 1) (p_2 : 0 ≤ lv) (p_3 : lv ≤ 16) (p_4 : 19 ≤ (kk : Int) + lv) (p_5 : F p (0 : Int) ≠ 5) (p_6 : F p (4 : Int) = 0) (p_7 : F p (5 : Int) = 0) (p_8 : F p (6 : Int) = 0) (p_9 : F p (7 : Int) = 0) (p_10 : F p (8 : Int) = 0) (p_11 : F p (101 : Int) = 0) (p_12 : F p (103 : Int) = 0) (c_NP : NP m tg F) : ∀ (mm : Nat) (L : jL) (mx : Nat) (tgx lnx : Int → Int) (Fx : Int → Int → Int) (k la : Int), (mo - k).toNat = mm → jGet L 0 = some (rv (me)) → jGet L 1 = some (rv (p)) → jGet L 2 = some (.int (i32 (lv))) → jGet L 3 = some (.int (i32 (mo))) → jGet L 5 = some (.int (i32 k)) → jGet L 4 = some (rv la) → Ex m tg ln mx tgx lnx → HC 0 mx tgx lnx Fx → Fq p [(7, 15), (9, 2), (9, 3), (10, 0), (10, 1), (10, 2), (10, 8), (10, 9), (11, 8), (11, 12), (11, 13), (11, 14), (11, 15), (11, 16), (11, 17), (11, 18)] m tg F Fx → ((-2147483648 : Int) ≤ k ∧ k ≤ 2147483647) → (la = 0 ∨ (own mx la ∧ tgx la = 8)) → (Fx sc (8 : Int) + 2 * tz (Fx sc (15 : Int)) ≤ F sc (7 : Int) + 1) → (Fx sc (8 : Int) + 2 * lz (Fx sc (14 : Int)) ≤ F sc (7 : Int) + 1) → (Fx pg (9 : Int) ≤ F pg (9 : Int) + ((mx : Int) - (m : Int))) → (F sc (8 : Int) ≤ Fx sc (8 : Int)) → (szD mx tgx lnx = szD m tg ln + 25 * ((mx : Int) - (m : Int))) → ((mx : Int) ≤ (m : Int) + (Fx sc (8 : Int) - F sc (8 : Int)) + (0)) → (0 ≤ k) → (Fx p (0 : Int) = F p (0 : Int)) → (la = 0 ∨ (64 + (m : Int) ≤ la ∧ Fx la (103 : Int) = 1 ∧ Fx la (100 : Int) = 60 - 2 * lv ∧ Fx la (101 : Int) = 0)) → (NP mx tgx Fx) → (NM m mx tgx) → (WK Fx p (62 - 2 * lv)) → wj X d jm185 (6, L, [], cV R mx tgx lnx Fx) (fun o V_q => (∃ (m_q : Nat) (tg_q ln_q : Int → Int) (F_q : Int → Int → Int), V_q = cV R m_q tg_q ln_q F_q ∧ o = .inl none ∧ Ex m tg ln m_q tg_q ln_q ∧ HC 0 m_q tg_q ln_q F_q ∧ Fq p [(7, 15), (9, 2), (9, 3), (10, 0), (10, 1), (10, 2), (10, 8), (10, 9), (11, 8), (11, 12), (11, 13), (11, 14), (11, 15), (11, 16), (11, 17), (11, 18)] m tg F F_q ∧ (F_q sc (8 : Int) + 2 * tz (F_q sc (15 : Int)) ≤ F sc (7 : Int) + 1) ∧ (F_q sc (8 : Int) + 2 * lz (F_q sc (14 : Int)) ≤ F sc (7 : Int) + 1) ∧ (F sc (8 : Int) ≤ F_q sc (8 : Int)) ∧ (szD m_q tg_q ln_q = szD m tg ln + 25 * ((m_q : Int) - (m : Int))) ∧ ((m_q : Int) ≤ (m : Int) + (F_q sc (8 : Int) - F sc (8 : Int)) + (0)) ∧ (F_q pg (9 : Int) ≤ F pg (9 : Int) + ((m_q : Int) - (m : Int))) ∧ (WK F_q p (62 - 2 * lv)) ∧ (NP m_q tg_q F_q) ∧ (NM m m_q tg_q) ∧ True) ∨ (∃ (m_q : Nat) (tg_q ln_q : Int → Int) (F_q : Int → Int → Int) (x : Nat), V_q = cV R m_q tg_q ln_q F_q ∧ o = .inr x ∧ Ex m tg ln m_q tg_q ln_q ∧ HC 0 m_q tg_q ln_q F_q ∧ Fq p [(7, 15), (9, 2), (9, 3), (10, 0), (10, 1), (10, 2), (10, 8), (10, 9), (11, 8), (11, 12), (11, 13), (11, 14), (11, 15), (11, 16), (11, 17), (11, 18)] m tg F F_q ∧ (own m_q (x : Int)) ∧ (tg_q (x : Int) = 16) ∧ (F_q pg (0 : Int) ≠ 0) ∧ (szD m_q tg_q ln_q = szD m tg ln + 25 * ((m_q : Int) - (m : Int))) ∧ ((m_q : Int) ≤ (m : Int) + (F_q sc (8 : Int) - F sc (8 : Int)) + (3)) ∧ (F_q sc (8 : Int) ≤ F sc (7 : Int) + 1) ∧ (NP m_q tg_q F_q) ∧ (NM m m_q tg_q) ∧ True)) := by
  intro mm
  induction mm using Nat.strongRecOn with
  | ind mm ih =>
    intro L mx tgx lnx Fx k la hmm gL_0 gL_1 gL_2 gL_3 gL_5 gL_4 hXx hCx hMx rx_k yx_la iv_0 iv_1 iv_2 iv_3 iv_4 iv_5 iv_6 iv_7 iv_8 cx_NP cx_NM wx_p
    have hX0 : Ex m tg ln m tg ln := Ex_r
    have lm1 := hXx.1
    have lt2 : p < 64 + (m : Int) := o_p.2.1
    have ho3 : own mx (me) ∧ tgx (me) = 9 := Ex_o hXx ⟨o_me, t_me⟩
    have ho4 : own mx (p) ∧ tgx (p) = 8 := Ex_o hXx ⟨o_p, t_p⟩
    have ho5 : own mx (sc) ∧ tgx (sc) = 11 := Ex_o hXx ⟨o_sc, t_sc⟩
    have ho6 : own mx (pg) ∧ tgx (pg) = 10 := Ex_o hXx ⟨o_pg, t_pg⟩
    have hX7 := Ex_t hX0 hXx
    have tb0 := tz_b (F sc (15 : Int))
    have lb0 := lz_b (F sc (14 : Int))
    have tb1 := tz_b (Fx sc (15 : Int))
    have lb1 := lz_b (Fx sc (14 : Int))
    have ob0 : (0 : Int) ≤ F me (3 : Int) ∧ F me (3 : Int) ≤ 8 := HC_i (c := 8) (q := 3) hC o_me t_me (by decide) rfl
    have tp0 : F me (2 : Int) < 64 + (m : Int) := by
      have z : F me (2 : Int) = 0 ∨ (own m (F me (2 : Int)) ∧ tg (F me (2 : Int)) = 7) := HC_r (c := 8) (q := 2) hC o_me t_me (by decide) rfl
      rcases z with w | w
      · omega
      · exact w.1.2.1
    have nz_p := own_z o_p
    have q8 := wx_p.1
    have q9 := wx_p.2.1
    have q10 := wx_p.2.2.1
    by_cases h11 : la = 0
    · have _q := h11
      refine jx_ld (pc_q := 8) (l_q := L) (st_q := [.int (i32 (k))]) rfl (jl_iload gL_5) ?_
      refine jx_ld (pc_q := 9) (l_q := L) (st_q := [.int (i32 (mo)), .int (i32 (k))]) rfl (jl_iloadn gL_3) ?_
      refine jx_icmp_ge (pc_q := 12) (tg := 42) rfl rfl rfl (by omega) (by omega) (by omega) (by omega) (fun h12 => ?_) (fun h12 => ?_)
      · have _q := h12
        refine jx_rt (v := none) rfl rfl rfl rfl rfl rfl ?_
        have q13 : Fx (sc) (7 : Int) = F (sc) (7 : Int) := (show Fx (sc) (7 : Int) = F (sc) (7 : Int) from hMx _ _ o_sc (fun w => by have q1 := ho5.2; rw [w, ho4.2] at q1; exact absurd q1 (by decide)) (by rw [t_sc]; rfl))
        have q14 := tz_b (Fx (sc) (15 : Int))
        have q15 := lz_b (Fx (sc) (14 : Int))
        exact Or.inl ⟨mx, tgx, lnx, Fx, rfl, rfl, hXx, hCx, hMx, by omega, by omega, by omega, by omega, by omega, by omega, (WK_m wx_p (by omega)), cx_NP, cx_NM, trivial⟩
      · have _q := h12
        refine jx_ld (pc_q := 13) (l_q := L) (st_q := [rv (me)]) rfl (jl_rvn gL_0) ?_
        refine cx_gr (pc_q := 16) (c := 8) (q := 1) (v := sc) rfl rfl (by decide) (by decide) rfl rfl ho3.1 ho3.2 ((show Fx (me) (1 : Int) = F (me) (1 : Int) from hMx _ _ o_me (fun w => by have q1 := ho3.2; rw [w, ho4.2] at q1; exact absurd q1 (by decide)) (by rw [t_me]; rfl)).trans e_sc) ?_
        refine cx_gi (pc_q := 19) (c := 10) (q := 14) (v := Fx (sc) (14 : Int)) rfl rfl (by decide) (by decide) (Or.inl rfl) rfl ho5.1 ho5.2 rfl ?_
        have b16 : (-2 : Int) ≤ Fx (sc) (14 : Int) ∧ Fx (sc) (14 : Int) ≤ 15 := by have z := HC_i (c := 10) (q := 14) hCx ho5.1 ho5.2 (by decide) rfl; rw [show Fx (sc) ((14 : Nat) : Int) = Fx (sc) (14 : Int) from rfl] at z; exact z
        refine jx_ld (pc_q := 20) (l_q := L) (st_q := [.int (i32 (lv)), .int (i32 (Fx (sc) (14 : Int)))]) rfl (jl_iloadn gL_2) ?_
        refine jx_icmp_ne (pc_q := 23) (tg := 42) rfl rfl rfl (by omega) (by omega) (by omega) (by omega) (fun h17 => ?_) (fun h17 => ?_)
        · have _q := h17
          refine jx_rt (v := none) rfl rfl rfl rfl rfl rfl ?_
          have q18 : Fx (sc) (7 : Int) = F (sc) (7 : Int) := (show Fx (sc) (7 : Int) = F (sc) (7 : Int) from hMx _ _ o_sc (fun w => by have q1 := ho5.2; rw [w, ho4.2] at q1; exact absurd q1 (by decide)) (by rw [t_sc]; rfl))
          have q19 := tz_b (Fx (sc) (15 : Int))
          have q20 := lz_b (Fx (sc) (14 : Int))
          exact Or.inl ⟨mx, tgx, lnx, Fx, rfl, rfl, hXx, hCx, hMx, by omega, by omega, by omega, by omega, by omega, by omega, (WK_m wx_p (by omega)), cx_NP, cx_NM, trivial⟩
        · have _q := h17
          have t21 : lz (Fx (sc) (14 : Int)) = 1 := lz_p (by omega)
          refine jx_ld (pc_q := 24) (l_q := L) (st_q := [rv (p)]) rfl (jl_rvn gL_1) ?_
          refine jx_ld (pc_q := 26) (l_q := L) (st_q := [rv (la), rv (p)]) rfl (jl_rv gL_4) ?_
          refine jx_ld (pc_q := 27) (l_q := L) (st_q := [rv (me), rv (la), rv (p)]) rfl (jl_rvn gL_0) ?_
          refine jx_ld (pc_q := 28) (l_q := L) (st_q := [.int (i32 (lv)), rv (me), rv (la), rv (p)]) rfl (jl_iloadn gL_2) ?_
          have q22 := tz_b (Fx (sc) (15 : Int))
          have q23 : Fx (sc) (7 : Int) = F (sc) (7 : Int) := (show Fx (sc) (7 : Int) = F (sc) (7 : Int) from hMx _ _ o_sc (fun w => by have q1 := ho5.2; rw [w, ho4.2] at q1; exact absurd q1 (by decide)) (by rw [t_sc]; rfl))
          have q24 := lz_b (Fx (sc) (14 : Int))
          have hE25 := hE (by omega)
          refine cx_vi (c := 8) (a := me) (st := [rv (la), rv (p)]) (as := [.int (i32 (lv))]) rfl rfl rfl ho3.1 ho3.2 (by decide) rfl ⟨rfl, rfl, (by rw [jS_r, jS_r, jS_0]; exact Nat.le_of_ble_eq_true rfl)⟩ rfl (hE25 (dd := d) (R := R) (m := mx) (tg := tgx) (ln := lnx) (F := Fx) (me := me) (lv := lv) (hd := by omega) (hC := hCx) (o_me := ho3.1) (t_me := ho3.2) (h_lv := by omega) (sc := sc) (pg := pg) (o_sc := ho5.1) (t_sc := ho5.2) (e_sc := ((show Fx (me) (1 : Int) = F (me) (1 : Int) from hMx _ _ o_me (fun w => by have q1 := ho3.2; rw [w, ho4.2] at q1; exact absurd q1 (by decide)) (by rw [t_me]; rfl)).trans e_sc)) (o_pg := ho6.1) (t_pg := ho6.2) (e_pg := ((show Fx (me) (0 : Int) = F (me) (0 : Int) from hMx _ _ o_me (fun w => by have q1 := ho3.2; rw [w, ho4.2] at q1; exact absurd q1 (by decide)) (by rw [t_me]; rfl)).trans e_pg)) (p_0 := by omega) (p_1 := by omega) (p_2 := by omega) (p_3 := by omega) (c_NP := cx_NP)) (fun o V_q hq => ?_)
          obtain ⟨m26, tg26, ln26, F27, r28, rfl, rfl, hx29, hC30, hM31, b32, p33, p34, p35, p36, p37, p38, p39, p40, p41, p42, p43, p44, c45, c46, -⟩ | ⟨m47, tg47, ln47, F47, x47, rfl, rfl, hx47, hC47, hM47, ho47, ht47, p48, p49, p50, p51, c52, c53, -⟩ := hq
          rotate_left
          ·
            have c54 : NM m m47 tg47 := NM_t cx_NM hx47 c53
            have lm55 := hx47.1
            refine Or.inr (Or.inr (Or.inr ⟨_, _, rfl, cx_exc (c := 15) ho47 ht47 (by decide), rfl, ?_⟩))
            have q56 : Fx (sc) (7 : Int) = F (sc) (7 : Int) := (show Fx (sc) (7 : Int) = F (sc) (7 : Int) from hMx _ _ o_sc (fun w => by have q1 := ho5.2; rw [w, ho4.2] at q1; exact absurd q1 (by decide)) (by rw [t_sc]; rfl))
            exact Or.inr ⟨m47, tg47, ln47, F47, x47, rfl, rfl, Ex_t hXx hx47, hC47, Fq_t (ln := ln) (ln1 := lnx) hMx hXx hM47 (by decide) (Or.inr (Or.inl rfl)), (And.intro ho47 ht47).1, (And.intro ho47 ht47).2, by omega, by omega, by omega, by omega, c52, c54, trivial⟩
          have hM57 : Fq p [(7, 15), (9, 2), (9, 3), (10, 0), (10, 1), (10, 2), (10, 8), (10, 9), (11, 8), (11, 12), (11, 13), (11, 14), (11, 15), (11, 16), (11, 17), (11, 18)] m tg F F27 := Fq_t (ln := ln) (ln1 := lnx) hMx hXx hM31 (by decide) (Or.inr (Or.inl rfl))
          have lm58 := hx29.1
          have lt59 : p < 64 + (mx : Int) := ho4.1.2.1
          have lt60 : la < 64 + (mx : Int) := by rcases yx_la with w | w; (· omega); exact w.1.2.1
          have ho61 : own m26 (me) ∧ tg26 (me) = 9 := Ex_o hx29 ⟨ho3.1, ho3.2⟩
          have ho62 : own m26 (p) ∧ tg26 (p) = 8 := Ex_o hx29 ⟨ho4.1, ho4.2⟩
          have y63 : la = 0 ∨ (own m26 (la) ∧ tg26 (la) = 8) := Ex_z hx29 yx_la
          have ho64 : own m26 (sc) ∧ tg26 (sc) = 11 := Ex_o hx29 ⟨ho5.1, ho5.2⟩
          have ho65 : own m26 (pg) ∧ tg26 (pg) = 10 := Ex_o hx29 ⟨ho6.1, ho6.2⟩
          have hX66 := Ex_t hXx hx29
          have w67 : WK F27 p (62 - 2 * lv) := WK_q wx_p hCx ho4.1 ho4.2 hM31 rfl
          have c68 : NM m m26 tg26 := NM_t cx_NM hx29 c46
          refine Or.inr (Or.inl ⟨_, rfl, ?_⟩)
          refine cx_st (st := []) (as := [rv (p), rv (la), rv (r28)]) rfl rfl rfl ⟨rfl, (Nat.le_of_ble_eq_true rfl)⟩ rfl (k_LParser_append (dd := d) (R := R) (m := m26) (tg := tg26) (ln := ln26) (F := F27) (p := p) (la := la) (ch := r28) (hd := by omega) (hC := hC30) (o_p := ho62.1) (t_p := ho62.2) (y_la := y63) (o_ch := b32.1) (t_ch := b32.2)) (fun o V_q hq => ?_)
          obtain ⟨z69, hz69, rfl, hq⟩ := hq
          rcases hq with ⟨hlz69, rfl⟩ | ⟨hlz69, rfl⟩
          · have _q := hlz69
            refine Or.inr (Or.inl ⟨_, rfl, ?_⟩)
            obtain ⟨F70, eF70⟩ : ∃ q, q = uF F27 (p) (4 : Int) (r28) := ⟨_, rfl⟩
            rw [← eF70]
            have hC71 : HC 0 m26 tg26 ln26 F70 := by rw [eF70]; exact HC_fr (c := 7) (q := 4) (by decide) hC30 ho62.2 (by decide) rfl (Or.inr ⟨b32.1, b32.2⟩) ⟨fun w => absurd w (by decide), fun w => absurd w (by decide)⟩
            have hM72 : Fq p [(7, 15), (9, 2), (9, 3), (10, 0), (10, 1), (10, 2), (10, 8), (10, 9), (11, 8), (11, 12), (11, 13), (11, 14), (11, 15), (11, 16), (11, 17), (11, 18)] m tg F F70 := by rw [eF70]; exact Fq_x hM57 (Or.inl rfl)
            have w73 : WK F70 p (62 - 2 * lv) := by rw [eF70]; exact WK_s w67 (by omega) (by omega) (by omega) (by omega) (by rw [show F27 (p) (0 : Int) = Fx (p) (0 : Int) from (show F27 (p) (0 : Int) = Fx (p) (0 : Int) from hM31 _ _ ho4.1 (own_z ho4.1) (by rw [ho4.2]; rfl))]; omega)
            have c74 : NP m26 tg26 F70 := by rw [eF70]; exact NP_un hC30 c45 ho62.1 ho62.2 (by rw [show F27 (p) (103 : Int) = Fx (p) (103 : Int) from (show F27 (p) (103 : Int) = Fx (p) (103 : Int) from hM31 _ _ ho4.1 (own_z ho4.1) (by rw [ho4.2]; rfl))]; omega) (by decide) (Or.inl (by decide))
            obtain ⟨F75, eF75⟩ : ∃ q, q = uF F70 (p) (2 : Int) (z69) := ⟨_, rfl⟩
            rw [← eF75]
            have hC76 : HC 0 m26 tg26 ln26 F75 := by rw [eF75]; exact HC_fi (c := 7) (q := 2) hC71 ho62.2 (by decide) rfl (by omega) (by omega) ⟨fun w => absurd w (by decide), fun w => absurd w (by decide)⟩
            have hM77 : Fq p [(7, 15), (9, 2), (9, 3), (10, 0), (10, 1), (10, 2), (10, 8), (10, 9), (11, 8), (11, 12), (11, 13), (11, 14), (11, 15), (11, 16), (11, 17), (11, 18)] m tg F F75 := by rw [eF75]; exact Fq_x hM72 (Or.inl rfl)
            have w78 : WK F75 p (62 - 2 * lv) := by rw [eF75]; exact WK_o w73 (by decide)
            have c79 : NP m26 tg26 F75 := by rw [eF75]; exact NP_un hC71 c74 ho62.1 ho62.2 (by rw [show F70 (p) (103 : Int) = Fx (p) (103 : Int) from ((show F70 (p) (103 : Int) = F27 (p) (103 : Int) from by rw [eF70]; exact uF_j (by decide)).trans (show F27 (p) (103 : Int) = Fx (p) (103 : Int) from hM31 _ _ ho4.1 (own_z ho4.1) (by rw [ho4.2]; rfl)))]; omega) (by decide) (Or.inl (by decide))
            refine jx_ld (pc_q := 36) (l_q := jSto1 L 4 (rv (r28))) (st_q := []) rfl (js_rv (by decide)) ?_
            obtain ⟨L80, eL80⟩ : ∃ q : jL, q = jSto1 L 4 (rv (r28)) := ⟨_, rfl⟩
            rw [← eL80]
            have g81 : jGet L80 0 = some (rv (me)) := eL80 ▸ jg_nr (by decide) gL_0
            have g82 : jGet L80 1 = some (rv (p)) := eL80 ▸ jg_nr (by decide) gL_1
            have g83 : jGet L80 2 = some (.int (i32 (lv))) := eL80 ▸ jg_ne (by decide) gL_2 rfl
            have g84 : jGet L80 3 = some (.int (i32 (mo))) := eL80 ▸ jg_ne (by decide) gL_3 rfl
            have g85 : jGet L80 5 = some (.int (i32 (k))) := eL80 ▸ jg_ne (by decide) gL_5 rfl
            have g86 : jGet L80 4 = some (rv (r28)) := eL80 ▸ jg_eq
            clear eL80
            refine jx_inc (pc_q := 39) (l_q := jSto1 L80 5 (.int (i32 (k + (1))))) (x := k) rfl g85 (by decide) rfl rfl ?_
            obtain ⟨L87, eL87⟩ : ∃ q : jL, q = jSto1 L80 5 (.int (i32 ((k + (1))))) := ⟨_, rfl⟩
            rw [← eL87]
            have g88 : jGet L87 0 = some (rv (me)) := eL87 ▸ jg_nr (by decide) g81
            have g89 : jGet L87 1 = some (rv (p)) := eL87 ▸ jg_nr (by decide) g82
            have g90 : jGet L87 2 = some (.int (i32 (lv))) := eL87 ▸ jg_ne (by decide) g83 rfl
            have g91 : jGet L87 3 = some (.int (i32 (mo))) := eL87 ▸ jg_ne (by decide) g84 rfl
            have g92 : jGet L87 4 = some (rv (r28)) := eL87 ▸ jg_nr (by decide) g86
            have g93 : jGet L87 5 = some (.int (i32 ((k + (1))))) := eL87 ▸ jg_eq
            clear eL87
            refine jx_go (tg := 6) rfl rfl ?_
            have q94 : F75 (sc) (8 : Int) = F27 (sc) (8 : Int) := ((show F75 (sc) (8 : Int) = F70 (sc) (8 : Int) from by rw [eF75]; exact uF_j (by decide)).trans (show F70 (sc) (8 : Int) = F27 (sc) (8 : Int) from by rw [eF70]; exact uF_j (by decide)))
            have q95 : F75 (sc) (15 : Int) = F27 (sc) (15 : Int) := ((show F75 (sc) (15 : Int) = F70 (sc) (15 : Int) from by rw [eF75]; exact uF_j (by decide)).trans (show F70 (sc) (15 : Int) = F27 (sc) (15 : Int) from by rw [eF70]; exact uF_j (by decide)))
            have q96 : tz (F75 (sc) (15 : Int)) = tz (F27 (sc) (15 : Int)) := by rw [q95]
            have q97 := tz_b (F27 (sc) (15 : Int))
            have q98 : F75 (sc) (14 : Int) = F27 (sc) (14 : Int) := ((show F75 (sc) (14 : Int) = F70 (sc) (14 : Int) from by rw [eF75]; exact uF_j (by decide)).trans (show F70 (sc) (14 : Int) = F27 (sc) (14 : Int) from by rw [eF70]; exact uF_j (by decide)))
            have q99 : lz (F75 (sc) (14 : Int)) = lz (F27 (sc) (14 : Int)) := by rw [q98]
            have q100 := lz_b (F27 (sc) (14 : Int))
            have q101 : F75 (pg) (9 : Int) = F27 (pg) (9 : Int) := ((show F75 (pg) (9 : Int) = F70 (pg) (9 : Int) from by rw [eF75]; exact uF_j (by decide)).trans (show F70 (pg) (9 : Int) = F27 (pg) (9 : Int) from by rw [eF70]; exact uF_j (by decide)))
            have q102 : F75 (p) (0 : Int) = Fx (p) (0 : Int) := ((show F75 (p) (0 : Int) = F70 (p) (0 : Int) from by rw [eF75]; exact uF_j (by decide)).trans ((show F70 (p) (0 : Int) = F27 (p) (0 : Int) from by rw [eF70]; exact uF_j (by decide)).trans (show F27 (p) (0 : Int) = Fx (p) (0 : Int) from hM31 _ _ ho4.1 (own_z ho4.1) (by rw [ho4.2]; rfl))))
            have q103 : F75 (r28) (103 : Int) = F27 (r28) (103 : Int) := ((show F75 (r28) (103 : Int) = F70 (r28) (103 : Int) from by rw [eF75]; exact uF_j (by decide)).trans (show F70 (r28) (103 : Int) = F27 (r28) (103 : Int) from by rw [eF70]; exact uF_j (by decide)))
            have q104 : F75 (r28) (100 : Int) = F27 (r28) (100 : Int) := ((show F75 (r28) (100 : Int) = F70 (r28) (100 : Int) from by rw [eF75]; exact uF_j (by decide)).trans (show F70 (r28) (100 : Int) = F27 (r28) (100 : Int) from by rw [eF70]; exact uF_j (by decide)))
            have q105 : F75 (r28) (101 : Int) = F27 (r28) (101 : Int) := ((show F75 (r28) (101 : Int) = F70 (r28) (101 : Int) from by rw [eF75]; exact uF_j (by decide)).trans (show F70 (r28) (101 : Int) = F27 (r28) (101 : Int) from by rw [eF70]; exact uF_j (by decide)))
            exact ih _ (by omega) L87 m26 tg26 ln26 F75 ((k + (1))) (r28) rfl g88 g89 g90 g91 g93 g92 hX66 hC76 hM77 (by omega) (Or.inr ⟨b32.1, b32.2⟩) (by omega) (by omega) (by omega) (by omega) (by omega) (by omega) (by omega) (by omega) (by omega) c79 c68 (WK_m w78 (by omega))
          · have _q := hlz69
            refine Or.inr (Or.inl ⟨_, rfl, ?_⟩)
            have ho106 : own m26 (la) ∧ tg26 (la) = 8 := y63.resolve_left hlz69
            obtain ⟨F107, eF107⟩ : ∃ q, q = uF F27 (la) (8 : Int) (r28) := ⟨_, rfl⟩
            rw [← eF107]
            have hC108 : HC 0 m26 tg26 ln26 F107 := by rw [eF107]; exact HC_fr (c := 7) (q := 8) (by decide) hC30 ho106.2 (by decide) rfl (Or.inr ⟨b32.1, b32.2⟩) ⟨fun w => absurd w (by decide), fun w => absurd w (by decide)⟩
            have hM109 : Fq p [(7, 15), (9, 2), (9, 3), (10, 0), (10, 1), (10, 2), (10, 8), (10, 9), (11, 8), (11, 12), (11, 13), (11, 14), (11, 15), (11, 16), (11, 17), (11, 18)] m tg F F107 := by rw [eF107]; exact Fq_x hM57 (Or.inr (by omega))
            have w110 : WK F107 p (62 - 2 * lv) := by rw [eF107]; exact WK_8 w67 (by omega)
            have c111 : NP m26 tg26 F107 := by rw [eF107]; exact NP_nx hC30 c45 ho106.1 ho106.2 (by omega) (by omega) (by omega) (by omega) (fun w => absurd (by omega) w)
            obtain ⟨F112, eF112⟩ : ∃ q, q = uF F107 (p) (2 : Int) (z69) := ⟨_, rfl⟩
            rw [← eF112]
            have hC113 : HC 0 m26 tg26 ln26 F112 := by rw [eF112]; exact HC_fi (c := 7) (q := 2) hC108 ho62.2 (by decide) rfl (by omega) (by omega) ⟨fun w => absurd w (by decide), fun w => absurd w (by decide)⟩
            have hM114 : Fq p [(7, 15), (9, 2), (9, 3), (10, 0), (10, 1), (10, 2), (10, 8), (10, 9), (11, 8), (11, 12), (11, 13), (11, 14), (11, 15), (11, 16), (11, 17), (11, 18)] m tg F F112 := by rw [eF112]; exact Fq_x hM109 (Or.inl rfl)
            have w115 : WK F112 p (62 - 2 * lv) := by rw [eF112]; exact WK_o w110 (by decide)
            have c116 : NP m26 tg26 F112 := by rw [eF112]; exact NP_un hC108 c111 ho62.1 ho62.2 (by rw [show F107 (p) (103 : Int) = Fx (p) (103 : Int) from ((show F107 (p) (103 : Int) = F27 (p) (103 : Int) from by rw [eF107]; exact uF_j (by decide)).trans (show F27 (p) (103 : Int) = Fx (p) (103 : Int) from hM31 _ _ ho4.1 (own_z ho4.1) (by rw [ho4.2]; rfl)))]; omega) (by decide) (Or.inl (by decide))
            refine jx_ld (pc_q := 36) (l_q := jSto1 L 4 (rv (r28))) (st_q := []) rfl (js_rv (by decide)) ?_
            obtain ⟨L117, eL117⟩ : ∃ q : jL, q = jSto1 L 4 (rv (r28)) := ⟨_, rfl⟩
            rw [← eL117]
            have g118 : jGet L117 0 = some (rv (me)) := eL117 ▸ jg_nr (by decide) gL_0
            have g119 : jGet L117 1 = some (rv (p)) := eL117 ▸ jg_nr (by decide) gL_1
            have g120 : jGet L117 2 = some (.int (i32 (lv))) := eL117 ▸ jg_ne (by decide) gL_2 rfl
            have g121 : jGet L117 3 = some (.int (i32 (mo))) := eL117 ▸ jg_ne (by decide) gL_3 rfl
            have g122 : jGet L117 5 = some (.int (i32 (k))) := eL117 ▸ jg_ne (by decide) gL_5 rfl
            have g123 : jGet L117 4 = some (rv (r28)) := eL117 ▸ jg_eq
            clear eL117
            refine jx_inc (pc_q := 39) (l_q := jSto1 L117 5 (.int (i32 (k + (1))))) (x := k) rfl g122 (by decide) rfl rfl ?_
            obtain ⟨L124, eL124⟩ : ∃ q : jL, q = jSto1 L117 5 (.int (i32 ((k + (1))))) := ⟨_, rfl⟩
            rw [← eL124]
            have g125 : jGet L124 0 = some (rv (me)) := eL124 ▸ jg_nr (by decide) g118
            have g126 : jGet L124 1 = some (rv (p)) := eL124 ▸ jg_nr (by decide) g119
            have g127 : jGet L124 2 = some (.int (i32 (lv))) := eL124 ▸ jg_ne (by decide) g120 rfl
            have g128 : jGet L124 3 = some (.int (i32 (mo))) := eL124 ▸ jg_ne (by decide) g121 rfl
            have g129 : jGet L124 4 = some (rv (r28)) := eL124 ▸ jg_nr (by decide) g123
            have g130 : jGet L124 5 = some (.int (i32 ((k + (1))))) := eL124 ▸ jg_eq
            clear eL124
            refine jx_go (tg := 6) rfl rfl ?_
            have q131 : F112 (sc) (8 : Int) = F27 (sc) (8 : Int) := ((show F112 (sc) (8 : Int) = F107 (sc) (8 : Int) from by rw [eF112]; exact uF_j (by decide)).trans (show F107 (sc) (8 : Int) = F27 (sc) (8 : Int) from by rw [eF107]; exact uF_a (fun w => by have q1 := ho64.2; have q2 := ho106.2; rw [w, q2] at q1; exact absurd q1 (by decide))))
            have q132 : F112 (sc) (15 : Int) = F27 (sc) (15 : Int) := ((show F112 (sc) (15 : Int) = F107 (sc) (15 : Int) from by rw [eF112]; exact uF_j (by decide)).trans (show F107 (sc) (15 : Int) = F27 (sc) (15 : Int) from by rw [eF107]; exact uF_j (by decide)))
            have q133 : tz (F112 (sc) (15 : Int)) = tz (F27 (sc) (15 : Int)) := by rw [q132]
            have q134 := tz_b (F27 (sc) (15 : Int))
            have q135 : F112 (sc) (14 : Int) = F27 (sc) (14 : Int) := ((show F112 (sc) (14 : Int) = F107 (sc) (14 : Int) from by rw [eF112]; exact uF_j (by decide)).trans (show F107 (sc) (14 : Int) = F27 (sc) (14 : Int) from by rw [eF107]; exact uF_j (by decide)))
            have q136 : lz (F112 (sc) (14 : Int)) = lz (F27 (sc) (14 : Int)) := by rw [q135]
            have q137 := lz_b (F27 (sc) (14 : Int))
            have q138 : F112 (pg) (9 : Int) = F27 (pg) (9 : Int) := ((show F112 (pg) (9 : Int) = F107 (pg) (9 : Int) from by rw [eF112]; exact uF_j (by decide)).trans (show F107 (pg) (9 : Int) = F27 (pg) (9 : Int) from by rw [eF107]; exact uF_j (by decide)))
            have q139 : F112 (p) (0 : Int) = Fx (p) (0 : Int) := ((show F112 (p) (0 : Int) = F107 (p) (0 : Int) from by rw [eF112]; exact uF_j (by decide)).trans ((show F107 (p) (0 : Int) = F27 (p) (0 : Int) from by rw [eF107]; exact uF_j (by decide)).trans (show F27 (p) (0 : Int) = Fx (p) (0 : Int) from hM31 _ _ ho4.1 (own_z ho4.1) (by rw [ho4.2]; rfl))))
            have q140 : F112 (r28) (103 : Int) = F27 (r28) (103 : Int) := ((show F112 (r28) (103 : Int) = F107 (r28) (103 : Int) from by rw [eF112]; exact uF_j (by decide)).trans (show F107 (r28) (103 : Int) = F27 (r28) (103 : Int) from by rw [eF107]; exact uF_j (by decide)))
            have q141 : F112 (r28) (100 : Int) = F27 (r28) (100 : Int) := ((show F112 (r28) (100 : Int) = F107 (r28) (100 : Int) from by rw [eF112]; exact uF_j (by decide)).trans (show F107 (r28) (100 : Int) = F27 (r28) (100 : Int) from by rw [eF107]; exact uF_j (by decide)))
            have q142 : F112 (r28) (101 : Int) = F27 (r28) (101 : Int) := ((show F112 (r28) (101 : Int) = F107 (r28) (101 : Int) from by rw [eF112]; exact uF_j (by decide)).trans (show F107 (r28) (101 : Int) = F27 (r28) (101 : Int) from by rw [eF107]; exact uF_j (by decide)))
            exact ih _ (by omega) L124 m26 tg26 ln26 F112 ((k + (1))) (r28) rfl g125 g126 g127 g128 g130 g129 hX66 hC113 hM114 (by omega) (Or.inr ⟨b32.1, b32.2⟩) (by omega) (by omega) (by omega) (by omega) (by omega) (by omega) (by omega) (by omega) (by omega) c116 c68 (WK_m w115 (by omega))
    · have _q := h11
      have ho143 : own mx (la) ∧ tgx (la) = 8 := yx_la.resolve_left h11
      refine jx_ld (pc_q := 8) (l_q := L) (st_q := [.int (i32 (k))]) rfl (jl_iload gL_5) ?_
      refine jx_ld (pc_q := 9) (l_q := L) (st_q := [.int (i32 (mo)), .int (i32 (k))]) rfl (jl_iloadn gL_3) ?_
      refine jx_icmp_ge (pc_q := 12) (tg := 42) rfl rfl rfl (by omega) (by omega) (by omega) (by omega) (fun h144 => ?_) (fun h144 => ?_)
      · have _q := h144
        refine jx_rt (v := none) rfl rfl rfl rfl rfl rfl ?_
        have q145 : Fx (sc) (7 : Int) = F (sc) (7 : Int) := (show Fx (sc) (7 : Int) = F (sc) (7 : Int) from hMx _ _ o_sc (fun w => by have q1 := ho5.2; rw [w, ho4.2] at q1; exact absurd q1 (by decide)) (by rw [t_sc]; rfl))
        have q146 := tz_b (Fx (sc) (15 : Int))
        have q147 := lz_b (Fx (sc) (14 : Int))
        exact Or.inl ⟨mx, tgx, lnx, Fx, rfl, rfl, hXx, hCx, hMx, by omega, by omega, by omega, by omega, by omega, by omega, (WK_m wx_p (by omega)), cx_NP, cx_NM, trivial⟩
      · have _q := h144
        refine jx_ld (pc_q := 13) (l_q := L) (st_q := [rv (me)]) rfl (jl_rvn gL_0) ?_
        refine cx_gr (pc_q := 16) (c := 8) (q := 1) (v := sc) rfl rfl (by decide) (by decide) rfl rfl ho3.1 ho3.2 ((show Fx (me) (1 : Int) = F (me) (1 : Int) from hMx _ _ o_me (fun w => by have q1 := ho3.2; rw [w, ho4.2] at q1; exact absurd q1 (by decide)) (by rw [t_me]; rfl)).trans e_sc) ?_
        refine cx_gi (pc_q := 19) (c := 10) (q := 14) (v := Fx (sc) (14 : Int)) rfl rfl (by decide) (by decide) (Or.inl rfl) rfl ho5.1 ho5.2 rfl ?_
        have b148 : (-2 : Int) ≤ Fx (sc) (14 : Int) ∧ Fx (sc) (14 : Int) ≤ 15 := by have z := HC_i (c := 10) (q := 14) hCx ho5.1 ho5.2 (by decide) rfl; rw [show Fx (sc) ((14 : Nat) : Int) = Fx (sc) (14 : Int) from rfl] at z; exact z
        refine jx_ld (pc_q := 20) (l_q := L) (st_q := [.int (i32 (lv)), .int (i32 (Fx (sc) (14 : Int)))]) rfl (jl_iloadn gL_2) ?_
        refine jx_icmp_ne (pc_q := 23) (tg := 42) rfl rfl rfl (by omega) (by omega) (by omega) (by omega) (fun h149 => ?_) (fun h149 => ?_)
        · have _q := h149
          refine jx_rt (v := none) rfl rfl rfl rfl rfl rfl ?_
          have q150 : Fx (sc) (7 : Int) = F (sc) (7 : Int) := (show Fx (sc) (7 : Int) = F (sc) (7 : Int) from hMx _ _ o_sc (fun w => by have q1 := ho5.2; rw [w, ho4.2] at q1; exact absurd q1 (by decide)) (by rw [t_sc]; rfl))
          have q151 := tz_b (Fx (sc) (15 : Int))
          have q152 := lz_b (Fx (sc) (14 : Int))
          exact Or.inl ⟨mx, tgx, lnx, Fx, rfl, rfl, hXx, hCx, hMx, by omega, by omega, by omega, by omega, by omega, by omega, (WK_m wx_p (by omega)), cx_NP, cx_NM, trivial⟩
        · have _q := h149
          have t153 : lz (Fx (sc) (14 : Int)) = 1 := lz_p (by omega)
          refine jx_ld (pc_q := 24) (l_q := L) (st_q := [rv (p)]) rfl (jl_rvn gL_1) ?_
          refine jx_ld (pc_q := 26) (l_q := L) (st_q := [rv (la), rv (p)]) rfl (jl_rv gL_4) ?_
          refine jx_ld (pc_q := 27) (l_q := L) (st_q := [rv (me), rv (la), rv (p)]) rfl (jl_rvn gL_0) ?_
          refine jx_ld (pc_q := 28) (l_q := L) (st_q := [.int (i32 (lv)), rv (me), rv (la), rv (p)]) rfl (jl_iloadn gL_2) ?_
          have q154 := tz_b (Fx (sc) (15 : Int))
          have q155 : Fx (sc) (7 : Int) = F (sc) (7 : Int) := (show Fx (sc) (7 : Int) = F (sc) (7 : Int) from hMx _ _ o_sc (fun w => by have q1 := ho5.2; rw [w, ho4.2] at q1; exact absurd q1 (by decide)) (by rw [t_sc]; rfl))
          have q156 := lz_b (Fx (sc) (14 : Int))
          have hE157 := hE (by omega)
          refine cx_vi (c := 8) (a := me) (st := [rv (la), rv (p)]) (as := [.int (i32 (lv))]) rfl rfl rfl ho3.1 ho3.2 (by decide) rfl ⟨rfl, rfl, (by rw [jS_r, jS_r, jS_0]; exact Nat.le_of_ble_eq_true rfl)⟩ rfl (hE157 (dd := d) (R := R) (m := mx) (tg := tgx) (ln := lnx) (F := Fx) (me := me) (lv := lv) (hd := by omega) (hC := hCx) (o_me := ho3.1) (t_me := ho3.2) (h_lv := by omega) (sc := sc) (pg := pg) (o_sc := ho5.1) (t_sc := ho5.2) (e_sc := ((show Fx (me) (1 : Int) = F (me) (1 : Int) from hMx _ _ o_me (fun w => by have q1 := ho3.2; rw [w, ho4.2] at q1; exact absurd q1 (by decide)) (by rw [t_me]; rfl)).trans e_sc)) (o_pg := ho6.1) (t_pg := ho6.2) (e_pg := ((show Fx (me) (0 : Int) = F (me) (0 : Int) from hMx _ _ o_me (fun w => by have q1 := ho3.2; rw [w, ho4.2] at q1; exact absurd q1 (by decide)) (by rw [t_me]; rfl)).trans e_pg)) (p_0 := by omega) (p_1 := by omega) (p_2 := by omega) (p_3 := by omega) (c_NP := cx_NP)) (fun o V_q hq => ?_)
          obtain ⟨m158, tg158, ln158, F159, r160, rfl, rfl, hx161, hC162, hM163, b164, p165, p166, p167, p168, p169, p170, p171, p172, p173, p174, p175, p176, c177, c178, -⟩ | ⟨m179, tg179, ln179, F179, x179, rfl, rfl, hx179, hC179, hM179, ho179, ht179, p180, p181, p182, p183, c184, c185, -⟩ := hq
          rotate_left
          ·
            have c186 : NM m m179 tg179 := NM_t cx_NM hx179 c185
            have lm187 := hx179.1
            refine Or.inr (Or.inr (Or.inr ⟨_, _, rfl, cx_exc (c := 15) ho179 ht179 (by decide), rfl, ?_⟩))
            have q188 : Fx (sc) (7 : Int) = F (sc) (7 : Int) := (show Fx (sc) (7 : Int) = F (sc) (7 : Int) from hMx _ _ o_sc (fun w => by have q1 := ho5.2; rw [w, ho4.2] at q1; exact absurd q1 (by decide)) (by rw [t_sc]; rfl))
            exact Or.inr ⟨m179, tg179, ln179, F179, x179, rfl, rfl, Ex_t hXx hx179, hC179, Fq_t (ln := ln) (ln1 := lnx) hMx hXx hM179 (by decide) (Or.inr (Or.inl rfl)), (And.intro ho179 ht179).1, (And.intro ho179 ht179).2, by omega, by omega, by omega, by omega, c184, c186, trivial⟩
          have hM189 : Fq p [(7, 15), (9, 2), (9, 3), (10, 0), (10, 1), (10, 2), (10, 8), (10, 9), (11, 8), (11, 12), (11, 13), (11, 14), (11, 15), (11, 16), (11, 17), (11, 18)] m tg F F159 := Fq_t (ln := ln) (ln1 := lnx) hMx hXx hM163 (by decide) (Or.inr (Or.inl rfl))
          have lm190 := hx161.1
          have lt191 : p < 64 + (mx : Int) := ho4.1.2.1
          have lt192 : la < 64 + (mx : Int) := ho143.1.2.1
          have ho193 : own m158 (me) ∧ tg158 (me) = 9 := Ex_o hx161 ⟨ho3.1, ho3.2⟩
          have ho194 : own m158 (p) ∧ tg158 (p) = 8 := Ex_o hx161 ⟨ho4.1, ho4.2⟩
          have ho195 : own m158 (la) ∧ tg158 (la) = 8 := Ex_o hx161 ⟨ho143.1, ho143.2⟩
          have ho196 : own m158 (sc) ∧ tg158 (sc) = 11 := Ex_o hx161 ⟨ho5.1, ho5.2⟩
          have ho197 : own m158 (pg) ∧ tg158 (pg) = 10 := Ex_o hx161 ⟨ho6.1, ho6.2⟩
          have hX198 := Ex_t hXx hx161
          have w199 : WK F159 p (62 - 2 * lv) := WK_q wx_p hCx ho4.1 ho4.2 hM163 rfl
          have c200 : NM m m158 tg158 := NM_t cx_NM hx161 c178
          refine Or.inr (Or.inl ⟨_, rfl, ?_⟩)
          refine cx_st (st := []) (as := [rv (p), rv (la), rv (r160)]) rfl rfl rfl ⟨rfl, (Nat.le_of_ble_eq_true rfl)⟩ rfl (k_LParser_append (dd := d) (R := R) (m := m158) (tg := tg158) (ln := ln158) (F := F159) (p := p) (la := la) (ch := r160) (hd := by omega) (hC := hC162) (o_p := ho194.1) (t_p := ho194.2) (y_la := (Or.inr ⟨ho195.1, ho195.2⟩)) (o_ch := b164.1) (t_ch := b164.2)) (fun o V_q hq => ?_)
          obtain ⟨z201, hz201, rfl, hq⟩ := hq
          rcases hq with ⟨hlz201, rfl⟩ | ⟨hlz201, rfl⟩
          · have _q := hlz201
            exact absurd hlz201 (own_z ho195.1)
          · have _q := hlz201
            refine Or.inr (Or.inl ⟨_, rfl, ?_⟩)
            obtain ⟨F202, eF202⟩ : ∃ q, q = uF F159 (la) (8 : Int) (r160) := ⟨_, rfl⟩
            rw [← eF202]
            have hC203 : HC 0 m158 tg158 ln158 F202 := by rw [eF202]; exact HC_fr (c := 7) (q := 8) (by decide) hC162 ho195.2 (by decide) rfl (Or.inr ⟨b164.1, b164.2⟩) ⟨fun w => absurd w (by decide), fun w => absurd w (by decide)⟩
            have hM204 : Fq p [(7, 15), (9, 2), (9, 3), (10, 0), (10, 1), (10, 2), (10, 8), (10, 9), (11, 8), (11, 12), (11, 13), (11, 14), (11, 15), (11, 16), (11, 17), (11, 18)] m tg F F202 := by rw [eF202]; exact Fq_x hM189 (Or.inr (by omega))
            have w205 : WK F202 p (62 - 2 * lv) := by rw [eF202]; exact WK_8 w199 (by omega)
            have c206 : NP m158 tg158 F202 := by rw [eF202]; exact NP_nx hC162 c177 ho195.1 ho195.2 (by rw [show F159 (la) (103 : Int) = Fx (la) (103 : Int) from (show F159 (la) (103 : Int) = Fx (la) (103 : Int) from hM163 _ _ ho143.1 (own_z ho143.1) (by rw [ho143.2]; rfl))]; omega) (by omega) (by omega) (by rw [show F159 (la) (100 : Int) = Fx (la) (100 : Int) from (show F159 (la) (100 : Int) = Fx (la) (100 : Int) from hM163 _ _ ho143.1 (own_z ho143.1) (by rw [ho143.2]; rfl))]; omega) (fun w => absurd (by rw [show F159 (la) (101 : Int) = Fx (la) (101 : Int) from (show F159 (la) (101 : Int) = Fx (la) (101 : Int) from hM163 _ _ ho143.1 (own_z ho143.1) (by rw [ho143.2]; rfl))]; omega) w)
            obtain ⟨F207, eF207⟩ : ∃ q, q = uF F202 (p) (2 : Int) (z201) := ⟨_, rfl⟩
            rw [← eF207]
            have hC208 : HC 0 m158 tg158 ln158 F207 := by rw [eF207]; exact HC_fi (c := 7) (q := 2) hC203 ho194.2 (by decide) rfl (by omega) (by omega) ⟨fun w => absurd w (by decide), fun w => absurd w (by decide)⟩
            have hM209 : Fq p [(7, 15), (9, 2), (9, 3), (10, 0), (10, 1), (10, 2), (10, 8), (10, 9), (11, 8), (11, 12), (11, 13), (11, 14), (11, 15), (11, 16), (11, 17), (11, 18)] m tg F F207 := by rw [eF207]; exact Fq_x hM204 (Or.inl rfl)
            have w210 : WK F207 p (62 - 2 * lv) := by rw [eF207]; exact WK_o w205 (by decide)
            have c211 : NP m158 tg158 F207 := by rw [eF207]; exact NP_un hC203 c206 ho194.1 ho194.2 (by rw [show F202 (p) (103 : Int) = Fx (p) (103 : Int) from ((show F202 (p) (103 : Int) = F159 (p) (103 : Int) from by rw [eF202]; exact uF_j (by decide)).trans (show F159 (p) (103 : Int) = Fx (p) (103 : Int) from hM163 _ _ ho4.1 (own_z ho4.1) (by rw [ho4.2]; rfl)))]; omega) (by decide) (Or.inl (by decide))
            refine jx_ld (pc_q := 36) (l_q := jSto1 L 4 (rv (r160))) (st_q := []) rfl (js_rv (by decide)) ?_
            obtain ⟨L212, eL212⟩ : ∃ q : jL, q = jSto1 L 4 (rv (r160)) := ⟨_, rfl⟩
            rw [← eL212]
            have g213 : jGet L212 0 = some (rv (me)) := eL212 ▸ jg_nr (by decide) gL_0
            have g214 : jGet L212 1 = some (rv (p)) := eL212 ▸ jg_nr (by decide) gL_1
            have g215 : jGet L212 2 = some (.int (i32 (lv))) := eL212 ▸ jg_ne (by decide) gL_2 rfl
            have g216 : jGet L212 3 = some (.int (i32 (mo))) := eL212 ▸ jg_ne (by decide) gL_3 rfl
            have g217 : jGet L212 5 = some (.int (i32 (k))) := eL212 ▸ jg_ne (by decide) gL_5 rfl
            have g218 : jGet L212 4 = some (rv (r160)) := eL212 ▸ jg_eq
            clear eL212
            refine jx_inc (pc_q := 39) (l_q := jSto1 L212 5 (.int (i32 (k + (1))))) (x := k) rfl g217 (by decide) rfl rfl ?_
            obtain ⟨L219, eL219⟩ : ∃ q : jL, q = jSto1 L212 5 (.int (i32 ((k + (1))))) := ⟨_, rfl⟩
            rw [← eL219]
            have g220 : jGet L219 0 = some (rv (me)) := eL219 ▸ jg_nr (by decide) g213
            have g221 : jGet L219 1 = some (rv (p)) := eL219 ▸ jg_nr (by decide) g214
            have g222 : jGet L219 2 = some (.int (i32 (lv))) := eL219 ▸ jg_ne (by decide) g215 rfl
            have g223 : jGet L219 3 = some (.int (i32 (mo))) := eL219 ▸ jg_ne (by decide) g216 rfl
            have g224 : jGet L219 4 = some (rv (r160)) := eL219 ▸ jg_nr (by decide) g218
            have g225 : jGet L219 5 = some (.int (i32 ((k + (1))))) := eL219 ▸ jg_eq
            clear eL219
            refine jx_go (tg := 6) rfl rfl ?_
            have q226 : F207 (sc) (8 : Int) = F159 (sc) (8 : Int) := ((show F207 (sc) (8 : Int) = F202 (sc) (8 : Int) from by rw [eF207]; exact uF_j (by decide)).trans (show F202 (sc) (8 : Int) = F159 (sc) (8 : Int) from by rw [eF202]; exact uF_a (fun w => by have q1 := ho196.2; have q2 := ho195.2; rw [w, q2] at q1; exact absurd q1 (by decide))))
            have q227 : F207 (sc) (15 : Int) = F159 (sc) (15 : Int) := ((show F207 (sc) (15 : Int) = F202 (sc) (15 : Int) from by rw [eF207]; exact uF_j (by decide)).trans (show F202 (sc) (15 : Int) = F159 (sc) (15 : Int) from by rw [eF202]; exact uF_j (by decide)))
            have q228 : tz (F207 (sc) (15 : Int)) = tz (F159 (sc) (15 : Int)) := by rw [q227]
            have q229 := tz_b (F159 (sc) (15 : Int))
            have q230 : F207 (sc) (14 : Int) = F159 (sc) (14 : Int) := ((show F207 (sc) (14 : Int) = F202 (sc) (14 : Int) from by rw [eF207]; exact uF_j (by decide)).trans (show F202 (sc) (14 : Int) = F159 (sc) (14 : Int) from by rw [eF202]; exact uF_j (by decide)))
            have q231 : lz (F207 (sc) (14 : Int)) = lz (F159 (sc) (14 : Int)) := by rw [q230]
            have q232 := lz_b (F159 (sc) (14 : Int))
            have q233 : F207 (pg) (9 : Int) = F159 (pg) (9 : Int) := ((show F207 (pg) (9 : Int) = F202 (pg) (9 : Int) from by rw [eF207]; exact uF_j (by decide)).trans (show F202 (pg) (9 : Int) = F159 (pg) (9 : Int) from by rw [eF202]; exact uF_j (by decide)))
            have q234 : F207 (p) (0 : Int) = Fx (p) (0 : Int) := ((show F207 (p) (0 : Int) = F202 (p) (0 : Int) from by rw [eF207]; exact uF_j (by decide)).trans ((show F202 (p) (0 : Int) = F159 (p) (0 : Int) from by rw [eF202]; exact uF_j (by decide)).trans (show F159 (p) (0 : Int) = Fx (p) (0 : Int) from hM163 _ _ ho4.1 (own_z ho4.1) (by rw [ho4.2]; rfl))))
            have q235 : F207 (r160) (103 : Int) = F159 (r160) (103 : Int) := ((show F207 (r160) (103 : Int) = F202 (r160) (103 : Int) from by rw [eF207]; exact uF_j (by decide)).trans (show F202 (r160) (103 : Int) = F159 (r160) (103 : Int) from by rw [eF202]; exact uF_j (by decide)))
            have q236 : F207 (r160) (100 : Int) = F159 (r160) (100 : Int) := ((show F207 (r160) (100 : Int) = F202 (r160) (100 : Int) from by rw [eF207]; exact uF_j (by decide)).trans (show F202 (r160) (100 : Int) = F159 (r160) (100 : Int) from by rw [eF202]; exact uF_j (by decide)))
            have q237 : F207 (r160) (101 : Int) = F159 (r160) (101 : Int) := ((show F207 (r160) (101 : Int) = F202 (r160) (101 : Int) from by rw [eF207]; exact uF_j (by decide)).trans (show F202 (r160) (101 : Int) = F159 (r160) (101 : Int) from by rw [eF202]; exact uF_j (by decide)))
            exact ih _ (by omega) L219 m158 tg158 ln158 F207 ((k + (1))) (r160) rfl g220 g221 g222 g223 g225 g224 hX198 hC208 hM209 (by omega) (Or.inr ⟨b164.1, b164.2⟩) (by omega) (by omega) (by omega) (by omega) (by omega) (by omega) (by omega) (by omega) (by omega) c211 c200 (WK_m w210 (by omega))
set_option maxRecDepth 20000 in
set_option maxHeartbeats 4000000 in
theorem k_LParser_readChildren {X : jX} {kk : Nat} (hE : 1 ≤ kk → PPx X (kk - 1)) {dd : Nat} {R : Nat → jC} {m : Nat} {tg ln : Int → Int} {F : Int → Int → Int} {me p lv mo : Int} (hd : 6 * kk + 81 ≤ dd) (hC : HC 0 m tg ln F) {sc pg : Int} (o_sc : own m sc) (t_sc : tg sc = 11) (e_sc : F me (1 : Int) = sc) (o_pg : own m pg) (t_pg : tg pg = 10) (e_pg : F me (0 : Int) = pg) (o_me : own m me) (t_me : tg me = 9) (o_p : own m p) (t_p : tg p = 8) (h_lv : (-2147483648 : Int) ≤ lv ∧ lv ≤ 2147483647) (h_mo : (-2147483648 : Int) ≤ mo ∧ mo ≤ 2147483647) (p_0 : F sc (8 : Int) + 2 * tz (F sc (15 : Int)) ≤ F sc (7 : Int) + 1) (p_1 : F sc (8 : Int) + 2 * lz (F sc (14 : Int)) ≤ F sc (7 : Int) + 1) (p_2 : 0 ≤ lv) (p_3 : lv ≤ 16) (p_4 : 19 ≤ (kk : Int) + lv) (p_5 : F p (0 : Int) ≠ 5) (p_6 : F p (4 : Int) = 0) (p_7 : F p (5 : Int) = 0) (p_8 : F p (6 : Int) = 0) (p_9 : F p (7 : Int) = 0) (p_10 : F p (8 : Int) = 0) (p_11 : F p (101 : Int) = 0) (p_12 : F p (103 : Int) = 0) (c_NP : NP m tg F) : wk X dd 185 [rv me, rv p, .int (i32 lv), .int (i32 mo)] (cV R m tg ln F) (fun o V_q => (∃ (m_q : Nat) (tg_q ln_q : Int → Int) (F_q : Int → Int → Int), V_q = cV R m_q tg_q ln_q F_q ∧ o = .inl none ∧ Ex m tg ln m_q tg_q ln_q ∧ HC 0 m_q tg_q ln_q F_q ∧ Fq p [(7, 15), (9, 2), (9, 3), (10, 0), (10, 1), (10, 2), (10, 8), (10, 9), (11, 8), (11, 12), (11, 13), (11, 14), (11, 15), (11, 16), (11, 17), (11, 18)] m tg F F_q ∧ (F_q sc (8 : Int) + 2 * tz (F_q sc (15 : Int)) ≤ F sc (7 : Int) + 1) ∧ (F_q sc (8 : Int) + 2 * lz (F_q sc (14 : Int)) ≤ F sc (7 : Int) + 1) ∧ (F sc (8 : Int) ≤ F_q sc (8 : Int)) ∧ (szD m_q tg_q ln_q = szD m tg ln + 25 * ((m_q : Int) - (m : Int))) ∧ ((m_q : Int) ≤ (m : Int) + (F_q sc (8 : Int) - F sc (8 : Int)) + (0)) ∧ (F_q pg (9 : Int) ≤ F pg (9 : Int) + ((m_q : Int) - (m : Int))) ∧ (WK F_q p (62 - 2 * lv)) ∧ (NP m_q tg_q F_q) ∧ (NM m m_q tg_q) ∧ True) ∨ (∃ (m_q : Nat) (tg_q ln_q : Int → Int) (F_q : Int → Int → Int) (x : Nat), V_q = cV R m_q tg_q ln_q F_q ∧ o = .inr x ∧ Ex m tg ln m_q tg_q ln_q ∧ HC 0 m_q tg_q ln_q F_q ∧ Fq p [(7, 15), (9, 2), (9, 3), (10, 0), (10, 1), (10, 2), (10, 8), (10, 9), (11, 8), (11, 12), (11, 13), (11, 14), (11, 15), (11, 16), (11, 17), (11, 18)] m tg F F_q ∧ (own m_q (x : Int)) ∧ (tg_q (x : Int) = 16) ∧ (F_q pg (0 : Int) ≠ 0) ∧ (szD m_q tg_q ln_q = szD m tg ln + 25 * ((m_q : Int) - (m : Int))) ∧ ((m_q : Int) ≤ (m : Int) + (F_q sc (8 : Int) - F sc (8 : Int)) + (3)) ∧ (F_q sc (8 : Int) ≤ F sc (7 : Int) + 1) ∧ (NP m_q tg_q F_q) ∧ (NM m m_q tg_q) ∧ True)) := by
  obtain ⟨d, rfl⟩ : ∃ d, dd = d + 1 := ⟨dd - 1, by omega⟩
  refine wk_of (e := jm185) rfl (by rw [jS_r, jS_r, jS_i, jS_i, jS_0]; exact Nat.le_of_ble_eq_true rfl) ?_
  rw [la_r, la_r, la_i, la_i, la_0]
  show wj X d jm185 (0, [(0, rv (me)), (1, rv (p)), (2, .int (i32 (lv))), (3, .int (i32 (mo)))], [], cV R m tg ln F) _
  have hM0 : Fq p [(7, 15), (9, 2), (9, 3), (10, 0), (10, 1), (10, 2), (10, 8), (10, 9), (11, 8), (11, 12), (11, 13), (11, 14), (11, 15), (11, 16), (11, 17), (11, 18)] m tg F F := Fq_r
  have hX0 : Ex m tg ln m tg ln := Ex_r
  obtain ⟨L0, eL0⟩ : ∃ q : jL, q = [(0, rv (me)), (1, rv (p)), (2, .int (i32 (lv))), (3, .int (i32 (mo)))] := ⟨_, rfl⟩
  rw [← eL0]
  have g238 : jGet L0 0 = some (rv (me)) := eL0 ▸ (rfl : jGet [(0, rv (me)), (1, rv (p)), (2, .int (i32 (lv))), (3, .int (i32 (mo)))] 0 = some (rv (me)))
  have g239 : jGet L0 1 = some (rv (p)) := eL0 ▸ (rfl : jGet [(0, rv (me)), (1, rv (p)), (2, .int (i32 (lv))), (3, .int (i32 (mo)))] 1 = some (rv (p)))
  have g240 : jGet L0 2 = some (.int (i32 (lv))) := eL0 ▸ (rfl : jGet [(0, rv (me)), (1, rv (p)), (2, .int (i32 (lv))), (3, .int (i32 (mo)))] 2 = some (.int (i32 (lv))))
  have g241 : jGet L0 3 = some (.int (i32 (mo))) := eL0 ▸ (rfl : jGet [(0, rv (me)), (1, rv (p)), (2, .int (i32 (lv))), (3, .int (i32 (mo)))] 3 = some (.int (i32 (mo))))
  clear eL0
  have tb0 := tz_b (F sc (15 : Int))
  have lb0 := lz_b (F sc (14 : Int))
  have ob0 : (0 : Int) ≤ F me (3 : Int) ∧ F me (3 : Int) ≤ 8 := HC_i (c := 8) (q := 3) hC o_me t_me (by decide) rfl
  have tp0 : F me (2 : Int) < 64 + (m : Int) := by
    have z : F me (2 : Int) = 0 ∨ (own m (F me (2 : Int)) ∧ tg (F me (2 : Int)) = 7) := HC_r (c := 8) (q := 2) hC o_me t_me (by decide) rfl
    rcases z with w | w
    · omega
    · exact w.1.2.1
  have nz_p := own_z o_p
  refine jx_ar (pc_q := 1) (st_q := .null :: []) rfl rfl rfl rfl ?_
  rw [← rv_0]
  refine jx_ld (pc_q := 3) (l_q := jSto1 L0 4 (rv (0))) (st_q := []) rfl (js_rv (by decide)) ?_
  obtain ⟨L242, eL242⟩ : ∃ q : jL, q = jSto1 L0 4 (rv (0)) := ⟨_, rfl⟩
  rw [← eL242]
  have g243 : jGet L242 0 = some (rv (me)) := eL242 ▸ jg_nr (by decide) g238
  have g244 : jGet L242 1 = some (rv (p)) := eL242 ▸ jg_nr (by decide) g239
  have g245 : jGet L242 2 = some (.int (i32 (lv))) := eL242 ▸ jg_ne (by decide) g240 rfl
  have g246 : jGet L242 3 = some (.int (i32 (mo))) := eL242 ▸ jg_ne (by decide) g241 rfl
  have g247 : jGet L242 4 = some (rv (0)) := eL242 ▸ jg_eq
  clear eL242
  refine jx_ar (pc_q := 4) (st_q := [.int (i32 (0))]) rfl rfl rfl rfl ?_
  refine jx_ld (pc_q := 6) (l_q := jSto1 L242 5 (.int (i32 (0)))) (st_q := []) rfl rfl ?_
  obtain ⟨L248, eL248⟩ : ∃ q : jL, q = jSto1 L242 5 (.int (i32 (0))) := ⟨_, rfl⟩
  rw [← eL248]
  have g249 : jGet L248 0 = some (rv (me)) := eL248 ▸ jg_nr (by decide) g243
  have g250 : jGet L248 1 = some (rv (p)) := eL248 ▸ jg_nr (by decide) g244
  have g251 : jGet L248 2 = some (.int (i32 (lv))) := eL248 ▸ jg_ne (by decide) g245 rfl
  have g252 : jGet L248 3 = some (.int (i32 (mo))) := eL248 ▸ jg_ne (by decide) g246 rfl
  have g253 : jGet L248 4 = some (rv (0)) := eL248 ▸ jg_nr (by decide) g247
  have g254 : jGet L248 5 = some (.int (i32 (0))) := eL248 ▸ jg_eq
  clear eL248
  have q255 := tz_b (F (sc) (15 : Int))
  have q256 := lz_b (F (sc) (14 : Int))
  exact k_LParser_readChildren_at_6 (X := X) (kk := kk) (hE := hE) (d := d) (R := R) (m := m) (tg := tg) (ln := ln) (F := F) (me := me) (p := p) (lv := lv) (mo := mo) (hd := hd) (hC := hC) (sc := sc) (pg := pg) (o_sc := o_sc) (t_sc := t_sc) (e_sc := e_sc) (o_pg := o_pg) (t_pg := t_pg) (e_pg := e_pg) (o_me := o_me) (t_me := t_me) (o_p := o_p) (t_p := t_p) (h_lv := h_lv) (h_mo := h_mo) (p_0 := p_0) (p_1 := p_1) (p_2 := p_2) (p_3 := p_3) (p_4 := p_4) (p_5 := p_5) (p_6 := p_6) (p_7 := p_7) (p_8 := p_8) (p_9 := p_9) (p_10 := p_10) (p_11 := p_11) (p_12 := p_12) (c_NP := c_NP) _ L248 m tg ln F (0) (0) rfl g249 g250 g251 g252 g254 g253 hX0 hC hM0 (by omega) (Or.inl rfl) (by omega) (by omega) (by omega) (by omega) (by omega) (by omega) (by omega) (by omega) (by omega) c_NP NM_0 (WK_i (K := 62 - 2 * lv) (by omega) (by omega) (by omega) (Or.inl (by omega)) (Or.inl (by omega)) (Or.inl (by omega)) (Or.inl (by omega)) (Or.inl (by omega)))
set_option maxRecDepth 20000 in
set_option maxHeartbeats 4000000 in
theorem k_LParser_readBranches {X : jX} {kk : Nat} (hE : 1 ≤ kk → PPx X (kk - 1)) {dd : Nat} {R : Nat → jC} {m : Nat} {tg ln : Int → Int} {F : Int → Int → Int} {me p lv mo : Int} (hd : 6 * kk + 82 ≤ dd) (hC : HC 0 m tg ln F) {sc pg : Int} (o_sc : own m sc) (t_sc : tg sc = 11) (e_sc : F me (1 : Int) = sc) (o_pg : own m pg) (t_pg : tg pg = 10) (e_pg : F me (0 : Int) = pg) (o_me : own m me) (t_me : tg me = 9) (o_p : own m p) (t_p : tg p = 8) (h_lv : (-2147483648 : Int) ≤ lv ∧ lv ≤ 2147483647) (h_mo : (-2147483648 : Int) ≤ mo ∧ mo ≤ 2147483647) (p_0 : F sc (8 : Int) + 2 * tz (F sc (15 : Int)) ≤ F sc (7 : Int) + 1) (p_1 : F sc (8 : Int) + 2 * lz (F sc (14 : Int)) ≤ F sc (7 : Int) + 1) (p_2 : 0 ≤ lv) (p_3 : lv ≤ 16) (p_4 : 19 ≤ (kk : Int) + lv) (p_5 : F p (0 : Int) ≠ 5) (p_6 : F p (4 : Int) = 0) (p_7 : F p (5 : Int) = 0) (p_8 : F p (6 : Int) = 0) (p_9 : F p (7 : Int) = 0) (p_10 : F p (8 : Int) = 0) (p_11 : F p (101 : Int) = 0) (p_12 : F p (103 : Int) = 0) (c_NP : NP m tg F) : wk X dd 184 [rv me, rv p, .int (i32 lv), .int (i32 mo)] (cV R m tg ln F) (fun o V_q => (∃ (m_q : Nat) (tg_q ln_q : Int → Int) (F_q : Int → Int → Int), V_q = cV R m_q tg_q ln_q F_q ∧ o = .inl none ∧ Ex m tg ln m_q tg_q ln_q ∧ HC 0 m_q tg_q ln_q F_q ∧ Fq p [(7, 15), (9, 2), (9, 3), (10, 0), (10, 1), (10, 2), (10, 8), (10, 9), (11, 8), (11, 12), (11, 13), (11, 14), (11, 15), (11, 16), (11, 17), (11, 18)] m tg F F_q ∧ (F_q sc (8 : Int) + 2 * tz (F_q sc (15 : Int)) ≤ F sc (7 : Int) + 1) ∧ (F_q sc (8 : Int) + 2 * lz (F_q sc (14 : Int)) ≤ F sc (7 : Int) + 1) ∧ (F sc (8 : Int) ≤ F_q sc (8 : Int)) ∧ (szD m_q tg_q ln_q = szD m tg ln + 25 * ((m_q : Int) - (m : Int))) ∧ ((m_q : Int) ≤ (m : Int) + (F_q sc (8 : Int) - F sc (8 : Int)) + (0)) ∧ (F_q pg (9 : Int) ≤ F pg (9 : Int) + ((m_q : Int) - (m : Int))) ∧ (WK F_q p (62 - 2 * lv)) ∧ (NP m_q tg_q F_q) ∧ (NM m m_q tg_q) ∧ True) ∨ (∃ (m_q : Nat) (tg_q ln_q : Int → Int) (F_q : Int → Int → Int) (x : Nat), V_q = cV R m_q tg_q ln_q F_q ∧ o = .inr x ∧ Ex m tg ln m_q tg_q ln_q ∧ HC 0 m_q tg_q ln_q F_q ∧ Fq p [(7, 15), (9, 2), (9, 3), (10, 0), (10, 1), (10, 2), (10, 8), (10, 9), (11, 8), (11, 12), (11, 13), (11, 14), (11, 15), (11, 16), (11, 17), (11, 18)] m tg F F_q ∧ (own m_q (x : Int)) ∧ (tg_q (x : Int) = 16) ∧ (F_q pg (0 : Int) ≠ 0) ∧ (szD m_q tg_q ln_q = szD m tg ln + 25 * ((m_q : Int) - (m : Int))) ∧ ((m_q : Int) ≤ (m : Int) + (F_q sc (8 : Int) - F sc (8 : Int)) + (3)) ∧ (F_q sc (8 : Int) ≤ F sc (7 : Int) + 1) ∧ (NP m_q tg_q F_q) ∧ (NM m m_q tg_q) ∧ True)) := by
  obtain ⟨d, rfl⟩ : ∃ d, dd = d + 1 := ⟨dd - 1, by omega⟩
  refine wk_of (e := jm184) rfl (by rw [jS_r, jS_r, jS_i, jS_i, jS_0]; exact Nat.le_of_ble_eq_true rfl) ?_
  rw [la_r, la_r, la_i, la_i, la_0]
  show wj X d jm184 (0, [(0, rv (me)), (1, rv (p)), (2, .int (i32 (lv))), (3, .int (i32 (mo)))], [], cV R m tg ln F) _
  have hM0 : Fq p [(7, 15), (9, 2), (9, 3), (10, 0), (10, 1), (10, 2), (10, 8), (10, 9), (11, 8), (11, 12), (11, 13), (11, 14), (11, 15), (11, 16), (11, 17), (11, 18)] m tg F F := Fq_r
  have hX0 : Ex m tg ln m tg ln := Ex_r
  obtain ⟨L0, eL0⟩ : ∃ q : jL, q = [(0, rv (me)), (1, rv (p)), (2, .int (i32 (lv))), (3, .int (i32 (mo)))] := ⟨_, rfl⟩
  rw [← eL0]
  have g1 : jGet L0 0 = some (rv (me)) := eL0 ▸ (rfl : jGet [(0, rv (me)), (1, rv (p)), (2, .int (i32 (lv))), (3, .int (i32 (mo)))] 0 = some (rv (me)))
  have g2 : jGet L0 1 = some (rv (p)) := eL0 ▸ (rfl : jGet [(0, rv (me)), (1, rv (p)), (2, .int (i32 (lv))), (3, .int (i32 (mo)))] 1 = some (rv (p)))
  have g3 : jGet L0 2 = some (.int (i32 (lv))) := eL0 ▸ (rfl : jGet [(0, rv (me)), (1, rv (p)), (2, .int (i32 (lv))), (3, .int (i32 (mo)))] 2 = some (.int (i32 (lv))))
  have g4 : jGet L0 3 = some (.int (i32 (mo))) := eL0 ▸ (rfl : jGet [(0, rv (me)), (1, rv (p)), (2, .int (i32 (lv))), (3, .int (i32 (mo)))] 3 = some (.int (i32 (mo))))
  clear eL0
  have tb0 := tz_b (F sc (15 : Int))
  have lb0 := lz_b (F sc (14 : Int))
  have ob0 : (0 : Int) ≤ F me (3 : Int) ∧ F me (3 : Int) ≤ 8 := HC_i (c := 8) (q := 3) hC o_me t_me (by decide) rfl
  have tp0 : F me (2 : Int) < 64 + (m : Int) := by
    have z : F me (2 : Int) = 0 ∨ (own m (F me (2 : Int)) ∧ tg (F me (2 : Int)) = 7) := HC_r (c := 8) (q := 2) hC o_me t_me (by decide) rfl
    rcases z with w | w
    · omega
    · exact w.1.2.1
  have nz_p := own_z o_p
  refine jx_ld (pc_q := 1) (l_q := L0) (st_q := [rv (me)]) rfl (jl_rvn g1) ?_
  refine jx_ld (pc_q := 2) (l_q := L0) (st_q := [rv (p), rv (me)]) rfl (jl_rvn g2) ?_
  refine jx_ld (pc_q := 3) (l_q := L0) (st_q := [.int (i32 (lv)), rv (p), rv (me)]) rfl (jl_iloadn g3) ?_
  refine jx_ld (pc_q := 4) (l_q := L0) (st_q := [.int (i32 (mo)), .int (i32 (lv)), rv (p), rv (me)]) rfl (jl_iloadn g4) ?_
  have q5 := tz_b (F (sc) (15 : Int))
  have q6 := lz_b (F (sc) (14 : Int))
  refine cx_vi (c := 8) (a := me) (st := []) (as := [rv (p), .int (i32 (lv)), .int (i32 (mo))]) rfl rfl rfl o_me t_me (by decide) rfl ⟨rfl, rfl, (Nat.le_of_ble_eq_true rfl)⟩ rfl (k_LParser_readChildren (dd := d) (R := R) (m := m) (tg := tg) (ln := ln) (F := F) (kk := kk) (hE := hE) (me := me) (p := p) (lv := lv) (mo := mo) (hd := by omega) (hC := hC) (o_me := o_me) (t_me := t_me) (o_p := o_p) (t_p := t_p) (h_lv := by omega) (h_mo := by omega) (sc := sc) (pg := pg) (o_sc := o_sc) (t_sc := t_sc) (e_sc := e_sc) (o_pg := o_pg) (t_pg := t_pg) (e_pg := e_pg) (p_0 := by omega) (p_1 := by omega) (p_2 := by omega) (p_3 := by omega) (p_4 := by omega) (p_5 := by omega) (p_6 := by omega) (p_7 := by omega) (p_8 := by omega) (p_9 := by omega) (p_10 := by omega) (p_11 := by omega) (p_12 := by omega) (c_NP := c_NP)) (fun o V_q hq => ?_)
  obtain ⟨m7, tg7, ln7, F8, rfl, rfl, hx9, hC10, hM11, p12, p13, p14, p15, p16, p17, p18, c19, c20, -⟩ | ⟨m21, tg21, ln21, F21, x21, rfl, rfl, hx21, hC21, hM21, ho21, ht21, p22, p23, p24, p25, c26, c27, -⟩ := hq
  rotate_left
  ·
    have c28 : NM m m21 tg21 := NM_t NM_0 hx21 c27
    have lm29 := hx21.1
    refine Or.inr (Or.inr (Or.inr ⟨_, _, rfl, cx_exc (c := 15) ho21 ht21 (by decide), rfl, ?_⟩))
    exact Or.inr ⟨m21, tg21, ln21, F21, x21, rfl, rfl, Ex_t hX0 hx21, hC21, Fq_t (ln := ln) (ln1 := ln) hM0 hX0 hM21 (by decide) (Or.inl rfl), (And.intro ho21 ht21).1, (And.intro ho21 ht21).2, by omega, by omega, by omega, by omega, c26, c28, trivial⟩
  have hM30 : Fq p [(7, 15), (9, 2), (9, 3), (10, 0), (10, 1), (10, 2), (10, 8), (10, 9), (11, 8), (11, 12), (11, 13), (11, 14), (11, 15), (11, 16), (11, 17), (11, 18)] m tg F F8 := Fq_t (ln := ln) (ln1 := ln) hM0 hX0 hM11 (by decide) (Or.inl rfl)
  have lm31 := hx9.1
  have lt32 : p < 64 + (m : Int) := o_p.2.1
  have ho33 : own m7 (me) ∧ tg7 (me) = 9 := Ex_o hx9 ⟨o_me, t_me⟩
  have ho34 : own m7 (p) ∧ tg7 (p) = 8 := Ex_o hx9 ⟨o_p, t_p⟩
  have ho35 : own m7 (sc) ∧ tg7 (sc) = 11 := Ex_o hx9 ⟨o_sc, t_sc⟩
  have ho36 : own m7 (pg) ∧ tg7 (pg) = 10 := Ex_o hx9 ⟨o_pg, t_pg⟩
  have hX37 := Ex_t hX0 hx9
  have q38 := p18.1
  have q39 := p18.2.1
  have q40 := p18.2.2.1
  have c41 : NM m m7 tg7 := NM_t NM_0 hx9 c20
  refine Or.inl ⟨rfl, ?_⟩
  refine jx_ld (pc_q := 8) (l_q := L0) (st_q := [rv (p)]) rfl (jl_rvn g2) ?_
  refine cx_gi (pc_q := 11) (c := 7) (q := 2) (v := F8 (p) (2 : Int)) rfl rfl (by decide) (by decide) (Or.inl rfl) rfl ho34.1 ho34.2 rfl ?_
  have b42 : (-2147483648 : Int) ≤ F8 (p) (2 : Int) ∧ F8 (p) (2 : Int) ≤ 2147483647 := by have z := HC_i (c := 7) (q := 2) hC10 ho34.1 ho34.2 (by decide) rfl; rw [show F8 (p) ((2 : Nat) : Int) = F8 (p) (2 : Int) from rfl] at z; exact z
  refine jx_ar (pc_q := 12) (st_q := [.int (i32 (2)), .int (i32 (F8 (p) (2 : Int)))]) rfl rfl rfl rfl ?_
  refine jx_icmp_ge (pc_q := 15) (tg := 19) rfl rfl rfl (by omega) (by omega) (by decide) (by decide) (fun h43 => ?_) (fun h43 => ?_)
  · have _q := h43
    refine jx_rt (v := none) rfl rfl rfl rfl rfl rfl ?_
    have q44 : F8 (sc) (7 : Int) = F (sc) (7 : Int) := (show F8 (sc) (7 : Int) = F (sc) (7 : Int) from hM11 _ _ o_sc (fun w => by have q1 := t_sc; rw [w, t_p] at q1; exact absurd q1 (by decide)) (by rw [t_sc]; rfl))
    have q45 := tz_b (F8 (sc) (15 : Int))
    have q46 := lz_b (F8 (sc) (14 : Int))
    exact Or.inl ⟨m7, tg7, ln7, F8, rfl, rfl, hX37, hC10, hM30, by omega, by omega, by omega, by omega, by omega, by omega, (WK_m p18 (by omega)), c19, c41, trivial⟩
  · have _q := h43
    have tb9 := tz_b (F8 sc (15 : Int))
    refine jx_ld (pc_q := 16) (l_q := L0) (st_q := [rv (me)]) rfl (jl_rvn g1) ?_
    have q47 : F8 (sc) (7 : Int) = F (sc) (7 : Int) := (show F8 (sc) (7 : Int) = F (sc) (7 : Int) from hM11 _ _ o_sc (fun w => by have q1 := t_sc; rw [w, t_p] at q1; exact absurd q1 (by decide)) (by rw [t_sc]; rfl))
    refine cx_vi (c := 8) (a := me) (st := []) (as := []) rfl rfl rfl ho33.1 ho33.2 (by decide) rfl ⟨rfl, rfl, (Nat.le_of_ble_eq_true rfl)⟩ rfl (k_LParser_form (dd := d) (R := R) (m := m7) (tg := tg7) (ln := ln7) (F := F8) (me := me) (hd := by omega) (hC := hC10) (o_me := ho33.1) (t_me := ho33.2) (sc := sc) (pg := pg) (o_sc := ho35.1) (t_sc := ho35.2) (e_sc := ((show F8 (me) (1 : Int) = F (me) (1 : Int) from hM11 _ _ o_me (fun w => by have q1 := t_me; rw [w, t_p] at q1; exact absurd q1 (by decide)) (by rw [t_me]; rfl)).trans e_sc)) (o_pg := ho36.1) (t_pg := ho36.2) (e_pg := ((show F8 (me) (0 : Int) = F (me) (0 : Int) from hM11 _ _ o_me (fun w => by have q1 := t_me; rw [w, t_p] at q1; exact absurd q1 (by decide)) (by rw [t_me]; rfl)).trans e_pg)) (p_0 := by omega) (c_NP := c19)) (fun o V_q hq => ?_)
    obtain ⟨m48, tg48, ln48, F49, rfl, rfl, hx50, hC51, hM52, p53, c54, c55, -⟩ | ⟨m56, tg56, ln56, F56, x56, rfl, rfl, hx56, hC56, hM56, ho56, ht56, p57, p58, p59, p60, c61, c62, -⟩ := hq
    rotate_left
    ·
      have c63 : NM m m56 tg56 := NM_t c41 hx56 c62
      have lm64 := hx56.1
      refine Or.inr (Or.inr (Or.inr ⟨_, _, rfl, cx_exc (c := 15) ho56 ht56 (by decide), rfl, ?_⟩))
      have q65 : F8 (sc) (7 : Int) = F (sc) (7 : Int) := q47
      exact Or.inr ⟨m56, tg56, ln56, F56, x56, rfl, rfl, Ex_t hX37 hx56, hC56, Fq_t (ln := ln) (ln1 := ln7) hM30 hX37 hM56 (by decide) (Or.inr (Or.inl rfl)), (And.intro ho56 ht56).1, (And.intro ho56 ht56).2, by omega, by omega, by omega, by omega, c61, c63, trivial⟩
    exact p53.elim
