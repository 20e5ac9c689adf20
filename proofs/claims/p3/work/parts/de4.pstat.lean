set_option maxRecDepth 20000 in
set_option maxHeartbeats 4000000 in
theorem k_LParser_readStatement {X : jX} {kk : Nat} (hE : 1 ≤ kk → PPx X (kk - 1)) {dd : Nat} {R : Nat → jC} {m : Nat} {tg ln : Int → Int} {F : Int → Int → Int} {me p lv : Int} (hd : 6 * kk + 85 ≤ dd) (hC : HC 0 m tg ln F) {sc pg : Int} (o_sc : own m sc) (t_sc : tg sc = 11) (e_sc : F me (1 : Int) = sc) (o_pg : own m pg) (t_pg : tg pg = 10) (e_pg : F me (0 : Int) = pg) (o_me : own m me) (t_me : tg me = 9) (o_p : own m p) (t_p : tg p = 8) (h_lv : (-2147483648 : Int) ≤ lv ∧ lv ≤ 2147483647) (p_0 : F sc (8 : Int) + 2 * tz (F sc (15 : Int)) ≤ F sc (7 : Int) + 1) (p_1 : F sc (8 : Int) + 2 * lz (F sc (14 : Int)) ≤ F sc (7 : Int) + 1) (p_2 : F sc (8 : Int) ≤ F sc (7 : Int)) (p_3 : 0 ≤ lv) (p_4 : lv ≤ 15) (p_5 : 18 ≤ (kk : Int) + lv) (p_6 : F p (0 : Int) = 0) (p_7 : F p (3 : Int) = 0) (p_8 : F p (4 : Int) = 0) (p_9 : F p (5 : Int) = 0) (p_10 : F p (6 : Int) = 0) (p_11 : F p (7 : Int) = 0) (p_12 : F p (8 : Int) = 0) (p_13 : F p (101 : Int) = 0) (p_14 : F p (103 : Int) = 0) (c_NP : NP m tg F) : wk X dd 180 [rv me, rv p, .int (i32 lv)] (cV R m tg ln F) (fun o V_q => (∃ (m_q : Nat) (tg_q ln_q : Int → Int) (F_q : Int → Int → Int), V_q = cV R m_q tg_q ln_q F_q ∧ o = .inl none ∧ Ex m tg ln m_q tg_q ln_q ∧ HC 0 m_q tg_q ln_q F_q ∧ Fq p [(7, 15), (9, 2), (9, 3), (10, 0), (10, 1), (10, 2), (10, 8), (10, 9), (11, 8), (11, 12), (11, 13), (11, 14), (11, 15), (11, 16), (11, 17), (11, 18)] m tg F F_q ∧ (F_q sc (8 : Int) + 2 * tz (F_q sc (15 : Int)) ≤ F sc (7 : Int) + 1) ∧ (F_q sc (8 : Int) + 2 * lz (F_q sc (14 : Int)) ≤ F sc (7 : Int) + 1) ∧ (F sc (8 : Int) ≤ F_q sc (8 : Int)) ∧ (szD m_q tg_q ln_q = szD m tg ln + 25 * ((m_q : Int) - (m : Int))) ∧ ((m_q : Int) ≤ (m : Int) + (F_q sc (8 : Int) - F sc (8 : Int)) + (-1)) ∧ (F_q pg (9 : Int) ≤ F pg (9 : Int) + ((m_q : Int) - (m : Int))) ∧ (WK F_q p (60 - 2 * lv)) ∧ (NP m_q tg_q F_q) ∧ (NM m m_q tg_q) ∧ True) ∨ (∃ (m_q : Nat) (tg_q ln_q : Int → Int) (F_q : Int → Int → Int) (x : Nat), V_q = cV R m_q tg_q ln_q F_q ∧ o = .inr x ∧ Ex m tg ln m_q tg_q ln_q ∧ HC 0 m_q tg_q ln_q F_q ∧ Fq p [(7, 15), (9, 2), (9, 3), (10, 0), (10, 1), (10, 2), (10, 8), (10, 9), (11, 8), (11, 12), (11, 13), (11, 14), (11, 15), (11, 16), (11, 17), (11, 18)] m tg F F_q ∧ (own m_q (x : Int)) ∧ (tg_q (x : Int) = 16) ∧ (F_q pg (0 : Int) ≠ 0) ∧ (szD m_q tg_q ln_q = szD m tg ln + 25 * ((m_q : Int) - (m : Int))) ∧ ((m_q : Int) ≤ (m : Int) + (F_q sc (8 : Int) - F sc (8 : Int)) + (2)) ∧ (F_q sc (8 : Int) ≤ F sc (7 : Int) + 1) ∧ (NP m_q tg_q F_q) ∧ (NM m m_q tg_q) ∧ True)) := by
  obtain ⟨d, rfl⟩ : ∃ d, dd = d + 1 := ⟨dd - 1, by omega⟩
  refine wk_of (e := jm180) rfl (by rw [jS_r, jS_r, jS_i, jS_0]; exact Nat.le_of_ble_eq_true rfl) ?_
  rw [la_r, la_r, la_i, la_0]
  show wj X d jm180 (0, [(0, rv (me)), (1, rv (p)), (2, .int (i32 (lv)))], [], cV R m tg ln F) _
  have hM0 : Fq p [(7, 15), (9, 2), (9, 3), (10, 0), (10, 1), (10, 2), (10, 8), (10, 9), (11, 8), (11, 12), (11, 13), (11, 14), (11, 15), (11, 16), (11, 17), (11, 18)] m tg F F := Fq_r
  have hX0 : Ex m tg ln m tg ln := Ex_r
  obtain ⟨L0, eL0⟩ : ∃ q : jL, q = [(0, rv (me)), (1, rv (p)), (2, .int (i32 (lv)))] := ⟨_, rfl⟩
  rw [← eL0]
  have g1 : jGet L0 0 = some (rv (me)) := eL0 ▸ (rfl : jGet [(0, rv (me)), (1, rv (p)), (2, .int (i32 (lv)))] 0 = some (rv (me)))
  have g2 : jGet L0 1 = some (rv (p)) := eL0 ▸ (rfl : jGet [(0, rv (me)), (1, rv (p)), (2, .int (i32 (lv)))] 1 = some (rv (p)))
  have g3 : jGet L0 2 = some (.int (i32 (lv))) := eL0 ▸ (rfl : jGet [(0, rv (me)), (1, rv (p)), (2, .int (i32 (lv)))] 2 = some (.int (i32 (lv))))
  clear eL0
  have tb0 := tz_b (F sc (15 : Int))
  have lb0 := lz_b (F sc (14 : Int))
  have ob0 : (0 : Int) ≤ F me (3 : Int) ∧ F me (3 : Int) ≤ 8 := HC_i (c := 8) (q := 3) hC o_me t_me (by decide) rfl
  have tp0 : F me (2 : Int) < 64 + (m : Int) := by
    have z : F me (2 : Int) = 0 ∨ (own m (F me (2 : Int)) ∧ tg (F me (2 : Int)) = 7) := HC_r (c := 8) (q := 2) hC o_me t_me (by decide) rfl
    rcases z with w | w
    · omega
    · exact w.1.2.1
  have nz_p := own_z o_p
  refine jx_ld (pc_q := 1) (l_q := L0) (st_q := [rv (me)]) rfl (jl_rvn g1) ?_
  refine cx_gr (pc_q := 4) (c := 8) (q := 1) (v := sc) rfl rfl (by decide) (by decide) rfl rfl o_me t_me e_sc ?_
  refine cx_gi (pc_q := 7) (c := 10) (q := 15) (v := F (sc) (15 : Int)) rfl rfl (by decide) (by decide) (Or.inl rfl) rfl o_sc t_sc rfl ?_
  have b4 : (-2147483648 : Int) ≤ F (sc) (15 : Int) ∧ F (sc) (15 : Int) ≤ 2147483647 := by have z := HC_i (c := 10) (q := 15) hC o_sc t_sc (by decide) rfl; rw [show F (sc) ((15 : Nat) : Int) = F (sc) (15 : Int) from rfl] at z; exact z
  by_cases h5 : F (sc) (15 : Int) = 2
  · refine jx_swe (tg := 119) h5 rfl rfl rfl rfl ?_
    have t6 : tz (F (sc) (15 : Int)) = 1 := tz_p (by omega)
    refine jx_ld (pc_q := 120) (l_q := L0) (st_q := [rv (me)]) rfl (jl_rvn g1) ?_
    refine jx_ld (pc_q := 121) (l_q := L0) (st_q := [rv (p), rv (me)]) rfl (jl_rvn g2) ?_
    have q7 := tz_b (F (sc) (15 : Int))
    have q8 := lz_b (F (sc) (14 : Int))
    refine cx_vi (c := 8) (a := me) (st := []) (as := [rv (p)]) rfl rfl rfl o_me t_me (by decide) rfl ⟨rfl, rfl, (Nat.le_of_ble_eq_true rfl)⟩ rfl (k_LParser_readSimple (dd := d) (R := R) (m := m) (tg := tg) (ln := ln) (F := F) (me := me) (p := p) (hd := by omega) (hC := hC) (o_me := o_me) (t_me := t_me) (o_p := o_p) (t_p := t_p) (sc := sc) (pg := pg) (o_sc := o_sc) (t_sc := t_sc) (e_sc := e_sc) (o_pg := o_pg) (t_pg := t_pg) (e_pg := e_pg) (p_0 := by omega) (p_1 := by omega) (p_2 := by omega) (p_3 := by omega) (p_4 := by omega) (p_5 := by omega) (p_6 := by omega) (p_7 := by omega) (p_8 := by omega) (p_9 := by omega) (p_10 := by omega) (p_11 := by omega) (p_12 := by omega) (c_NP := c_NP)) (fun o V_q hq => ?_)
    obtain ⟨m9, tg9, ln9, F10, rfl, rfl, hx11, hC12, hM13, p14, p15, p16, p17, p18, p19, p20, p21, c22, c23, -⟩ | ⟨m24, tg24, ln24, F24, x24, rfl, rfl, hx24, hC24, hM24, ho24, ht24, p25, p26, p27, p28, c29, c30, -⟩ := hq
    rotate_left
    ·
      have c31 : NM m m24 tg24 := NM_t NM_0 hx24 c30
      have lm32 := hx24.1
      refine Or.inr (Or.inr (Or.inr ⟨_, _, rfl, cx_exc (c := 15) ho24 ht24 (by decide), rfl, ?_⟩))
      exact Or.inr ⟨m24, tg24, ln24, F24, x24, rfl, rfl, Ex_t hX0 hx24, hC24, Fq_t (ln := ln) (ln1 := ln) hM0 hX0 hM24 (by decide) (Or.inl rfl), (And.intro ho24 ht24).1, (And.intro ho24 ht24).2, by omega, by omega, by omega, by omega, c29, c31, trivial⟩
    have hM33 : Fq p [(7, 15), (9, 2), (9, 3), (10, 0), (10, 1), (10, 2), (10, 8), (10, 9), (11, 8), (11, 12), (11, 13), (11, 14), (11, 15), (11, 16), (11, 17), (11, 18)] m tg F F10 := Fq_t (ln := ln) (ln1 := ln) hM0 hX0 hM13 (by decide) (Or.inl rfl)
    have lm34 := hx11.1
    have lt35 : p < 64 + (m : Int) := o_p.2.1
    have ho36 : own m9 (me) ∧ tg9 (me) = 9 := Ex_o hx11 ⟨o_me, t_me⟩
    have ho37 : own m9 (p) ∧ tg9 (p) = 8 := Ex_o hx11 ⟨o_p, t_p⟩
    have ho38 : own m9 (sc) ∧ tg9 (sc) = 11 := Ex_o hx11 ⟨o_sc, t_sc⟩
    have ho39 : own m9 (pg) ∧ tg9 (pg) = 10 := Ex_o hx11 ⟨o_pg, t_pg⟩
    have hX40 := Ex_t hX0 hx11
    have q41 := p21.1
    have q42 := p21.2.1
    have q43 := p21.2.2.1
    have c44 : NM m m9 tg9 := NM_t NM_0 hx11 c23
    refine Or.inl ⟨rfl, ?_⟩
    refine jx_ld (pc_q := 125) (l_q := L0) (st_q := [rv (me)]) rfl (jl_rvn g1) ?_
    have q45 := tz_b (F10 (sc) (15 : Int))
    have q46 : F10 (sc) (7 : Int) = F (sc) (7 : Int) := (show F10 (sc) (7 : Int) = F (sc) (7 : Int) from hM13 _ _ o_sc (fun w => by have q1 := t_sc; rw [w, t_p] at q1; exact absurd q1 (by decide)) (by rw [t_sc]; rfl))
    have q47 := lz_b (F10 (sc) (14 : Int))
    refine cx_vi (c := 8) (a := me) (st := []) (as := []) rfl rfl rfl ho36.1 ho36.2 (by decide) rfl ⟨rfl, rfl, (Nat.le_of_ble_eq_true rfl)⟩ rfl (k_LParser_endLine (dd := d) (R := R) (m := m9) (tg := tg9) (ln := ln9) (F := F10) (me := me) (hd := by omega) (hC := hC12) (o_me := ho36.1) (t_me := ho36.2) (sc := sc) (pg := pg) (o_sc := ho38.1) (t_sc := ho38.2) (e_sc := ((show F10 (me) (1 : Int) = F (me) (1 : Int) from hM13 _ _ o_me (fun w => by have q1 := t_me; rw [w, t_p] at q1; exact absurd q1 (by decide)) (by rw [t_me]; rfl)).trans e_sc)) (o_pg := ho39.1) (t_pg := ho39.2) (e_pg := ((show F10 (me) (0 : Int) = F (me) (0 : Int) from hM13 _ _ o_me (fun w => by have q1 := t_me; rw [w, t_p] at q1; exact absurd q1 (by decide)) (by rw [t_me]; rfl)).trans e_pg)) (p_0 := by omega) (p_1 := by omega) (p_2 := by omega) (c_NP := c22)) (fun o V_q hq => ?_)
    obtain ⟨m48, tg48, ln48, F49, rfl, rfl, hx50, hC51, hM52, p53, p54, p55, p56, p57, p58, p59, c60, c61, -⟩ | ⟨m62, tg62, ln62, F62, x62, rfl, rfl, hx62, hC62, hM62, ho62, ht62, p63, p64, p65, p66, c67, c68, -⟩ := hq
    rotate_left
    ·
      have c69 : NM m m62 tg62 := NM_t c44 hx62 c68
      have lm70 := hx62.1
      refine Or.inr (Or.inr (Or.inr ⟨_, _, rfl, cx_exc (c := 15) ho62 ht62 (by decide), rfl, ?_⟩))
      have q71 : F10 (sc) (7 : Int) = F (sc) (7 : Int) := q46
      exact Or.inr ⟨m62, tg62, ln62, F62, x62, rfl, rfl, Ex_t hX40 hx62, hC62, Fq_t (ln := ln) (ln1 := ln9) hM33 hX40 hM62 (by decide) (Or.inr (Or.inl rfl)), (And.intro ho62 ht62).1, (And.intro ho62 ht62).2, by omega, by omega, by omega, by omega, c67, c69, trivial⟩
    have hM72 : Fq p [(7, 15), (9, 2), (9, 3), (10, 0), (10, 1), (10, 2), (10, 8), (10, 9), (11, 8), (11, 12), (11, 13), (11, 14), (11, 15), (11, 16), (11, 17), (11, 18)] m tg F F49 := Fq_t (ln := ln) (ln1 := ln9) hM33 hX40 hM52 (by decide) (Or.inr (Or.inl rfl))
    have lm73 := hx50.1
    have lt74 : p < 64 + (m9 : Int) := ho37.1.2.1
    have ho75 : own m48 (me) ∧ tg48 (me) = 9 := Ex_o hx50 ⟨ho36.1, ho36.2⟩
    have ho76 : own m48 (p) ∧ tg48 (p) = 8 := Ex_o hx50 ⟨ho37.1, ho37.2⟩
    have ho77 : own m48 (sc) ∧ tg48 (sc) = 11 := Ex_o hx50 ⟨ho38.1, ho38.2⟩
    have ho78 : own m48 (pg) ∧ tg48 (pg) = 10 := Ex_o hx50 ⟨ho39.1, ho39.2⟩
    have hX79 := Ex_t hX40 hx50
    have w80 : WK F49 p (21) := WK_q p21 hC12 ho37.1 ho37.2 hM52 rfl
    have c81 : NM m m48 tg48 := NM_t c44 hx50 c61
    refine Or.inl ⟨rfl, ?_⟩
    refine jx_go (tg := 245) rfl rfl ?_
    refine jx_rt (v := none) rfl rfl rfl rfl rfl rfl ?_
    have q82 : F49 (sc) (7 : Int) = F (sc) (7 : Int) := ((show F49 (sc) (7 : Int) = F10 (sc) (7 : Int) from hM52 _ _ ho38.1 (own_z ho38.1) (by rw [ho38.2]; rfl)).trans q46)
    have q83 : F49 (pg) (9 : Int) = F10 (pg) (9 : Int) := (show F49 (pg) (9 : Int) = F10 (pg) (9 : Int) from hM52 _ _ ho39.1 (own_z ho39.1) (by rw [ho39.2]; rfl))
    have q84 := tz_b (F49 (sc) (15 : Int))
    have q85 := lz_b (F49 (sc) (14 : Int))
    have q86 : F49 (pg) (9 : Int) = F10 (pg) (9 : Int) := q83
    exact Or.inl ⟨m48, tg48, ln48, F49, rfl, rfl, hX79, hC51, hM72, by omega, by omega, by omega, by omega, by omega, by omega, (WK_m w80 (by omega)), c60, c81, trivial⟩
  by_cases h87 : F (sc) (15 : Int) = 3
  · refine jx_swe (tg := 241) h87 rfl rfl rfl rfl ?_
    have t88 : tz (F (sc) (15 : Int)) = 1 := tz_p (by omega)
    refine jx_ld (pc_q := 242) (l_q := L0) (st_q := [rv (me)]) rfl (jl_rvn g1) ?_
    refine cx_vi (c := 8) (a := me) (st := []) (as := []) rfl rfl rfl o_me t_me (by decide) rfl ⟨rfl, rfl, (Nat.le_of_ble_eq_true rfl)⟩ rfl (k_LParser_form (dd := d) (R := R) (m := m) (tg := tg) (ln := ln) (F := F) (me := me) (hd := by omega) (hC := hC) (o_me := o_me) (t_me := t_me) (sc := sc) (pg := pg) (o_sc := o_sc) (t_sc := t_sc) (e_sc := e_sc) (o_pg := o_pg) (t_pg := t_pg) (e_pg := e_pg) (p_0 := by omega) (c_NP := c_NP)) (fun o V_q hq => ?_)
    obtain ⟨m89, tg89, ln89, F90, rfl, rfl, hx91, hC92, hM93, p94, c95, c96, -⟩ | ⟨m97, tg97, ln97, F97, x97, rfl, rfl, hx97, hC97, hM97, ho97, ht97, p98, p99, p100, p101, c102, c103, -⟩ := hq
    rotate_left
    ·
      have c104 : NM m m97 tg97 := NM_t NM_0 hx97 c103
      have lm105 := hx97.1
      refine Or.inr (Or.inr (Or.inr ⟨_, _, rfl, cx_exc (c := 15) ho97 ht97 (by decide), rfl, ?_⟩))
      exact Or.inr ⟨m97, tg97, ln97, F97, x97, rfl, rfl, Ex_t hX0 hx97, hC97, Fq_t (ln := ln) (ln1 := ln) hM0 hX0 hM97 (by decide) (Or.inr (Or.inl rfl)), (And.intro ho97 ht97).1, (And.intro ho97 ht97).2, by omega, by omega, by omega, by omega, c102, c104, trivial⟩
    exact p94.elim
  by_cases h106 : F (sc) (15 : Int) = 4
  · refine jx_swe (tg := 241) h106 rfl rfl rfl rfl ?_
    have t107 : tz (F (sc) (15 : Int)) = 1 := tz_p (by omega)
    refine jx_ld (pc_q := 242) (l_q := L0) (st_q := [rv (me)]) rfl (jl_rvn g1) ?_
    refine cx_vi (c := 8) (a := me) (st := []) (as := []) rfl rfl rfl o_me t_me (by decide) rfl ⟨rfl, rfl, (Nat.le_of_ble_eq_true rfl)⟩ rfl (k_LParser_form (dd := d) (R := R) (m := m) (tg := tg) (ln := ln) (F := F) (me := me) (hd := by omega) (hC := hC) (o_me := o_me) (t_me := t_me) (sc := sc) (pg := pg) (o_sc := o_sc) (t_sc := t_sc) (e_sc := e_sc) (o_pg := o_pg) (t_pg := t_pg) (e_pg := e_pg) (p_0 := by omega) (c_NP := c_NP)) (fun o V_q hq => ?_)
    obtain ⟨m108, tg108, ln108, F109, rfl, rfl, hx110, hC111, hM112, p113, c114, c115, -⟩ | ⟨m116, tg116, ln116, F116, x116, rfl, rfl, hx116, hC116, hM116, ho116, ht116, p117, p118, p119, p120, c121, c122, -⟩ := hq
    rotate_left
    ·
      have c123 : NM m m116 tg116 := NM_t NM_0 hx116 c122
      have lm124 := hx116.1
      refine Or.inr (Or.inr (Or.inr ⟨_, _, rfl, cx_exc (c := 15) ho116 ht116 (by decide), rfl, ?_⟩))
      exact Or.inr ⟨m116, tg116, ln116, F116, x116, rfl, rfl, Ex_t hX0 hx116, hC116, Fq_t (ln := ln) (ln1 := ln) hM0 hX0 hM116 (by decide) (Or.inr (Or.inl rfl)), (And.intro ho116 ht116).1, (And.intro ho116 ht116).2, by omega, by omega, by omega, by omega, c121, c123, trivial⟩
    exact p113.elim
  by_cases h125 : F (sc) (15 : Int) = 5
  · refine jx_swe (tg := 241) h125 rfl rfl rfl rfl ?_
    have t126 : tz (F (sc) (15 : Int)) = 1 := tz_p (by omega)
    refine jx_ld (pc_q := 242) (l_q := L0) (st_q := [rv (me)]) rfl (jl_rvn g1) ?_
    refine cx_vi (c := 8) (a := me) (st := []) (as := []) rfl rfl rfl o_me t_me (by decide) rfl ⟨rfl, rfl, (Nat.le_of_ble_eq_true rfl)⟩ rfl (k_LParser_form (dd := d) (R := R) (m := m) (tg := tg) (ln := ln) (F := F) (me := me) (hd := by omega) (hC := hC) (o_me := o_me) (t_me := t_me) (sc := sc) (pg := pg) (o_sc := o_sc) (t_sc := t_sc) (e_sc := e_sc) (o_pg := o_pg) (t_pg := t_pg) (e_pg := e_pg) (p_0 := by omega) (c_NP := c_NP)) (fun o V_q hq => ?_)
    obtain ⟨m127, tg127, ln127, F128, rfl, rfl, hx129, hC130, hM131, p132, c133, c134, -⟩ | ⟨m135, tg135, ln135, F135, x135, rfl, rfl, hx135, hC135, hM135, ho135, ht135, p136, p137, p138, p139, c140, c141, -⟩ := hq
    rotate_left
    ·
      have c142 : NM m m135 tg135 := NM_t NM_0 hx135 c141
      have lm143 := hx135.1
      refine Or.inr (Or.inr (Or.inr ⟨_, _, rfl, cx_exc (c := 15) ho135 ht135 (by decide), rfl, ?_⟩))
      exact Or.inr ⟨m135, tg135, ln135, F135, x135, rfl, rfl, Ex_t hX0 hx135, hC135, Fq_t (ln := ln) (ln1 := ln) hM0 hX0 hM135 (by decide) (Or.inr (Or.inl rfl)), (And.intro ho135 ht135).1, (And.intro ho135 ht135).2, by omega, by omega, by omega, by omega, c140, c142, trivial⟩
    exact p132.elim
  by_cases h144 : F (sc) (15 : Int) = 6
  · refine jx_swe (tg := 241) h144 rfl rfl rfl rfl ?_
    have t145 : tz (F (sc) (15 : Int)) = 1 := tz_p (by omega)
    refine jx_ld (pc_q := 242) (l_q := L0) (st_q := [rv (me)]) rfl (jl_rvn g1) ?_
    refine cx_vi (c := 8) (a := me) (st := []) (as := []) rfl rfl rfl o_me t_me (by decide) rfl ⟨rfl, rfl, (Nat.le_of_ble_eq_true rfl)⟩ rfl (k_LParser_form (dd := d) (R := R) (m := m) (tg := tg) (ln := ln) (F := F) (me := me) (hd := by omega) (hC := hC) (o_me := o_me) (t_me := t_me) (sc := sc) (pg := pg) (o_sc := o_sc) (t_sc := t_sc) (e_sc := e_sc) (o_pg := o_pg) (t_pg := t_pg) (e_pg := e_pg) (p_0 := by omega) (c_NP := c_NP)) (fun o V_q hq => ?_)
    obtain ⟨m146, tg146, ln146, F147, rfl, rfl, hx148, hC149, hM150, p151, c152, c153, -⟩ | ⟨m154, tg154, ln154, F154, x154, rfl, rfl, hx154, hC154, hM154, ho154, ht154, p155, p156, p157, p158, c159, c160, -⟩ := hq
    rotate_left
    ·
      have c161 : NM m m154 tg154 := NM_t NM_0 hx154 c160
      have lm162 := hx154.1
      refine Or.inr (Or.inr (Or.inr ⟨_, _, rfl, cx_exc (c := 15) ho154 ht154 (by decide), rfl, ?_⟩))
      exact Or.inr ⟨m154, tg154, ln154, F154, x154, rfl, rfl, Ex_t hX0 hx154, hC154, Fq_t (ln := ln) (ln1 := ln) hM0 hX0 hM154 (by decide) (Or.inr (Or.inl rfl)), (And.intro ho154 ht154).1, (And.intro ho154 ht154).2, by omega, by omega, by omega, by omega, c159, c161, trivial⟩
    exact p151.elim
  by_cases h163 : F (sc) (15 : Int) = 7
  · refine jx_swe (tg := 241) h163 rfl rfl rfl rfl ?_
    have t164 : tz (F (sc) (15 : Int)) = 1 := tz_p (by omega)
    refine jx_ld (pc_q := 242) (l_q := L0) (st_q := [rv (me)]) rfl (jl_rvn g1) ?_
    refine cx_vi (c := 8) (a := me) (st := []) (as := []) rfl rfl rfl o_me t_me (by decide) rfl ⟨rfl, rfl, (Nat.le_of_ble_eq_true rfl)⟩ rfl (k_LParser_form (dd := d) (R := R) (m := m) (tg := tg) (ln := ln) (F := F) (me := me) (hd := by omega) (hC := hC) (o_me := o_me) (t_me := t_me) (sc := sc) (pg := pg) (o_sc := o_sc) (t_sc := t_sc) (e_sc := e_sc) (o_pg := o_pg) (t_pg := t_pg) (e_pg := e_pg) (p_0 := by omega) (c_NP := c_NP)) (fun o V_q hq => ?_)
    obtain ⟨m165, tg165, ln165, F166, rfl, rfl, hx167, hC168, hM169, p170, c171, c172, -⟩ | ⟨m173, tg173, ln173, F173, x173, rfl, rfl, hx173, hC173, hM173, ho173, ht173, p174, p175, p176, p177, c178, c179, -⟩ := hq
    rotate_left
    ·
      have c180 : NM m m173 tg173 := NM_t NM_0 hx173 c179
      have lm181 := hx173.1
      refine Or.inr (Or.inr (Or.inr ⟨_, _, rfl, cx_exc (c := 15) ho173 ht173 (by decide), rfl, ?_⟩))
      exact Or.inr ⟨m173, tg173, ln173, F173, x173, rfl, rfl, Ex_t hX0 hx173, hC173, Fq_t (ln := ln) (ln1 := ln) hM0 hX0 hM173 (by decide) (Or.inr (Or.inl rfl)), (And.intro ho173 ht173).1, (And.intro ho173 ht173).2, by omega, by omega, by omega, by omega, c178, c180, trivial⟩
    exact p170.elim
  by_cases h182 : F (sc) (15 : Int) = 8
  · refine jx_swe (tg := 241) h182 rfl rfl rfl rfl ?_
    have t183 : tz (F (sc) (15 : Int)) = 1 := tz_p (by omega)
    refine jx_ld (pc_q := 242) (l_q := L0) (st_q := [rv (me)]) rfl (jl_rvn g1) ?_
    refine cx_vi (c := 8) (a := me) (st := []) (as := []) rfl rfl rfl o_me t_me (by decide) rfl ⟨rfl, rfl, (Nat.le_of_ble_eq_true rfl)⟩ rfl (k_LParser_form (dd := d) (R := R) (m := m) (tg := tg) (ln := ln) (F := F) (me := me) (hd := by omega) (hC := hC) (o_me := o_me) (t_me := t_me) (sc := sc) (pg := pg) (o_sc := o_sc) (t_sc := t_sc) (e_sc := e_sc) (o_pg := o_pg) (t_pg := t_pg) (e_pg := e_pg) (p_0 := by omega) (c_NP := c_NP)) (fun o V_q hq => ?_)
    obtain ⟨m184, tg184, ln184, F185, rfl, rfl, hx186, hC187, hM188, p189, c190, c191, -⟩ | ⟨m192, tg192, ln192, F192, x192, rfl, rfl, hx192, hC192, hM192, ho192, ht192, p193, p194, p195, p196, c197, c198, -⟩ := hq
    rotate_left
    ·
      have c199 : NM m m192 tg192 := NM_t NM_0 hx192 c198
      have lm200 := hx192.1
      refine Or.inr (Or.inr (Or.inr ⟨_, _, rfl, cx_exc (c := 15) ho192 ht192 (by decide), rfl, ?_⟩))
      exact Or.inr ⟨m192, tg192, ln192, F192, x192, rfl, rfl, Ex_t hX0 hx192, hC192, Fq_t (ln := ln) (ln1 := ln) hM0 hX0 hM192 (by decide) (Or.inr (Or.inl rfl)), (And.intro ho192 ht192).1, (And.intro ho192 ht192).2, by omega, by omega, by omega, by omega, c197, c199, trivial⟩
    exact p189.elim
  by_cases h201 : F (sc) (15 : Int) = 9
  · refine jx_swe (tg := 241) h201 rfl rfl rfl rfl ?_
    have t202 : tz (F (sc) (15 : Int)) = 1 := tz_p (by omega)
    refine jx_ld (pc_q := 242) (l_q := L0) (st_q := [rv (me)]) rfl (jl_rvn g1) ?_
    refine cx_vi (c := 8) (a := me) (st := []) (as := []) rfl rfl rfl o_me t_me (by decide) rfl ⟨rfl, rfl, (Nat.le_of_ble_eq_true rfl)⟩ rfl (k_LParser_form (dd := d) (R := R) (m := m) (tg := tg) (ln := ln) (F := F) (me := me) (hd := by omega) (hC := hC) (o_me := o_me) (t_me := t_me) (sc := sc) (pg := pg) (o_sc := o_sc) (t_sc := t_sc) (e_sc := e_sc) (o_pg := o_pg) (t_pg := t_pg) (e_pg := e_pg) (p_0 := by omega) (c_NP := c_NP)) (fun o V_q hq => ?_)
    obtain ⟨m203, tg203, ln203, F204, rfl, rfl, hx205, hC206, hM207, p208, c209, c210, -⟩ | ⟨m211, tg211, ln211, F211, x211, rfl, rfl, hx211, hC211, hM211, ho211, ht211, p212, p213, p214, p215, c216, c217, -⟩ := hq
    rotate_left
    ·
      have c218 : NM m m211 tg211 := NM_t NM_0 hx211 c217
      have lm219 := hx211.1
      refine Or.inr (Or.inr (Or.inr ⟨_, _, rfl, cx_exc (c := 15) ho211 ht211 (by decide), rfl, ?_⟩))
      exact Or.inr ⟨m211, tg211, ln211, F211, x211, rfl, rfl, Ex_t hX0 hx211, hC211, Fq_t (ln := ln) (ln1 := ln) hM0 hX0 hM211 (by decide) (Or.inr (Or.inl rfl)), (And.intro ho211 ht211).1, (And.intro ho211 ht211).2, by omega, by omega, by omega, by omega, c216, c218, trivial⟩
    exact p208.elim
  by_cases h220 : F (sc) (15 : Int) = 10
  · refine jx_swe (tg := 131) h220 rfl rfl rfl rfl ?_
    have t221 : tz (F (sc) (15 : Int)) = 1 := tz_p (by omega)
    refine jx_ld (pc_q := 132) (l_q := L0) (st_q := [rv (me)]) rfl (jl_rvn g1) ?_
    refine jx_ld (pc_q := 133) (l_q := L0) (st_q := [rv (p), rv (me)]) rfl (jl_rvn g2) ?_
    refine jx_ld (pc_q := 134) (l_q := L0) (st_q := [.int (i32 (lv)), rv (p), rv (me)]) rfl (jl_iloadn g3) ?_
    have q222 := tz_b (F (sc) (15 : Int))
    have q223 := lz_b (F (sc) (14 : Int))
    refine cx_vi (c := 8) (a := me) (st := []) (as := [rv (p), .int (i32 (lv))]) rfl rfl rfl o_me t_me (by decide) rfl ⟨rfl, rfl, (Nat.le_of_ble_eq_true rfl)⟩ rfl (k_LParser_readSeq (dd := d) (R := R) (m := m) (tg := tg) (ln := ln) (F := F) (kk := kk) (hE := hE) (me := me) (p := p) (lv := lv) (hd := by omega) (hC := hC) (o_me := o_me) (t_me := t_me) (o_p := o_p) (t_p := t_p) (h_lv := by omega) (sc := sc) (pg := pg) (o_sc := o_sc) (t_sc := t_sc) (e_sc := e_sc) (o_pg := o_pg) (t_pg := t_pg) (e_pg := e_pg) (p_0 := by omega) (p_1 := by omega) (p_2 := by omega) (p_3 := by omega) (p_4 := by omega) (p_5 := by omega) (p_6 := by omega) (p_7 := by omega) (p_8 := by omega) (p_9 := by omega) (p_10 := by omega) (p_11 := by omega) (p_12 := by omega) (p_13 := by omega) (p_14 := by omega) (p_15 := by omega) (c_NP := c_NP)) (fun o V_q hq => ?_)
    obtain ⟨m224, tg224, ln224, F225, rfl, rfl, hx226, hC227, hM228, p229, p230, p231, p232, p233, p234, p235, c236, c237, -⟩ | ⟨m238, tg238, ln238, F238, x238, rfl, rfl, hx238, hC238, hM238, ho238, ht238, p239, p240, p241, p242, c243, c244, -⟩ := hq
    rotate_left
    ·
      have c245 : NM m m238 tg238 := NM_t NM_0 hx238 c244
      have lm246 := hx238.1
      refine Or.inr (Or.inr (Or.inr ⟨_, _, rfl, cx_exc (c := 15) ho238 ht238 (by decide), rfl, ?_⟩))
      exact Or.inr ⟨m238, tg238, ln238, F238, x238, rfl, rfl, Ex_t hX0 hx238, hC238, Fq_t (ln := ln) (ln1 := ln) hM0 hX0 hM238 (by decide) (Or.inl rfl), (And.intro ho238 ht238).1, (And.intro ho238 ht238).2, by omega, by omega, by omega, by omega, c243, c245, trivial⟩
    have hM247 : Fq p [(7, 15), (9, 2), (9, 3), (10, 0), (10, 1), (10, 2), (10, 8), (10, 9), (11, 8), (11, 12), (11, 13), (11, 14), (11, 15), (11, 16), (11, 17), (11, 18)] m tg F F225 := Fq_t (ln := ln) (ln1 := ln) hM0 hX0 hM228 (by decide) (Or.inl rfl)
    have lm248 := hx226.1
    have lt249 : p < 64 + (m : Int) := o_p.2.1
    have ho250 : own m224 (me) ∧ tg224 (me) = 9 := Ex_o hx226 ⟨o_me, t_me⟩
    have ho251 : own m224 (p) ∧ tg224 (p) = 8 := Ex_o hx226 ⟨o_p, t_p⟩
    have ho252 : own m224 (sc) ∧ tg224 (sc) = 11 := Ex_o hx226 ⟨o_sc, t_sc⟩
    have ho253 : own m224 (pg) ∧ tg224 (pg) = 10 := Ex_o hx226 ⟨o_pg, t_pg⟩
    have hX254 := Ex_t hX0 hx226
    have q255 := p235.1
    have q256 := p235.2.1
    have q257 := p235.2.2.1
    have c258 : NM m m224 tg224 := NM_t NM_0 hx226 c237
    refine Or.inl ⟨rfl, ?_⟩
    refine jx_go (tg := 245) rfl rfl ?_
    refine jx_rt (v := none) rfl rfl rfl rfl rfl rfl ?_
    have q259 : F225 (sc) (7 : Int) = F (sc) (7 : Int) := (show F225 (sc) (7 : Int) = F (sc) (7 : Int) from hM228 _ _ o_sc (fun w => by have q1 := t_sc; rw [w, t_p] at q1; exact absurd q1 (by decide)) (by rw [t_sc]; rfl))
    have q260 := tz_b (F225 (sc) (15 : Int))
    have q261 := lz_b (F225 (sc) (14 : Int))
    exact Or.inl ⟨m224, tg224, ln224, F225, rfl, rfl, hX254, hC227, hM247, by omega, by omega, by omega, by omega, by omega, by omega, (WK_m p235 (by omega)), c236, c258, trivial⟩
  by_cases h262 : F (sc) (15 : Int) = 11
  · refine jx_swe (tg := 140) h262 rfl rfl rfl rfl ?_
    have t263 : tz (F (sc) (15 : Int)) = 1 := tz_p (by omega)
    refine jx_ld (pc_q := 141) (l_q := L0) (st_q := [rv (me)]) rfl (jl_rvn g1) ?_
    refine jx_ld (pc_q := 142) (l_q := L0) (st_q := [rv (p), rv (me)]) rfl (jl_rvn g2) ?_
    refine jx_ld (pc_q := 143) (l_q := L0) (st_q := [.int (i32 (lv)), rv (p), rv (me)]) rfl (jl_iloadn g3) ?_
    have q264 := tz_b (F (sc) (15 : Int))
    have q265 := lz_b (F (sc) (14 : Int))
    refine cx_vi (c := 8) (a := me) (st := []) (as := [rv (p), .int (i32 (lv))]) rfl rfl rfl o_me t_me (by decide) rfl ⟨rfl, rfl, (Nat.le_of_ble_eq_true rfl)⟩ rfl (k_LParser_readPar (dd := d) (R := R) (m := m) (tg := tg) (ln := ln) (F := F) (kk := kk) (hE := hE) (me := me) (p := p) (lv := lv) (hd := by omega) (hC := hC) (o_me := o_me) (t_me := t_me) (o_p := o_p) (t_p := t_p) (h_lv := by omega) (sc := sc) (pg := pg) (o_sc := o_sc) (t_sc := t_sc) (e_sc := e_sc) (o_pg := o_pg) (t_pg := t_pg) (e_pg := e_pg) (p_0 := by omega) (p_1 := by omega) (p_2 := by omega) (p_3 := by omega) (p_4 := by omega) (p_5 := by omega) (p_6 := by omega) (p_7 := by omega) (p_8 := by omega) (p_9 := by omega) (p_10 := by omega) (p_11 := by omega) (p_12 := by omega) (p_13 := by omega) (p_14 := by omega) (p_15 := by omega) (c_NP := c_NP)) (fun o V_q hq => ?_)
    obtain ⟨m266, tg266, ln266, F267, rfl, rfl, hx268, hC269, hM270, p271, p272, p273, p274, p275, p276, p277, c278, c279, -⟩ | ⟨m280, tg280, ln280, F280, x280, rfl, rfl, hx280, hC280, hM280, ho280, ht280, p281, p282, p283, p284, c285, c286, -⟩ := hq
    rotate_left
    ·
      have c287 : NM m m280 tg280 := NM_t NM_0 hx280 c286
      have lm288 := hx280.1
      refine Or.inr (Or.inr (Or.inr ⟨_, _, rfl, cx_exc (c := 15) ho280 ht280 (by decide), rfl, ?_⟩))
      exact Or.inr ⟨m280, tg280, ln280, F280, x280, rfl, rfl, Ex_t hX0 hx280, hC280, Fq_t (ln := ln) (ln1 := ln) hM0 hX0 hM280 (by decide) (Or.inl rfl), (And.intro ho280 ht280).1, (And.intro ho280 ht280).2, by omega, by omega, by omega, by omega, c285, c287, trivial⟩
    have hM289 : Fq p [(7, 15), (9, 2), (9, 3), (10, 0), (10, 1), (10, 2), (10, 8), (10, 9), (11, 8), (11, 12), (11, 13), (11, 14), (11, 15), (11, 16), (11, 17), (11, 18)] m tg F F267 := Fq_t (ln := ln) (ln1 := ln) hM0 hX0 hM270 (by decide) (Or.inl rfl)
    have lm290 := hx268.1
    have lt291 : p < 64 + (m : Int) := o_p.2.1
    have ho292 : own m266 (me) ∧ tg266 (me) = 9 := Ex_o hx268 ⟨o_me, t_me⟩
    have ho293 : own m266 (p) ∧ tg266 (p) = 8 := Ex_o hx268 ⟨o_p, t_p⟩
    have ho294 : own m266 (sc) ∧ tg266 (sc) = 11 := Ex_o hx268 ⟨o_sc, t_sc⟩
    have ho295 : own m266 (pg) ∧ tg266 (pg) = 10 := Ex_o hx268 ⟨o_pg, t_pg⟩
    have hX296 := Ex_t hX0 hx268
    have q297 := p277.1
    have q298 := p277.2.1
    have q299 := p277.2.2.1
    have c300 : NM m m266 tg266 := NM_t NM_0 hx268 c279
    refine Or.inl ⟨rfl, ?_⟩
    refine jx_go (tg := 245) rfl rfl ?_
    refine jx_rt (v := none) rfl rfl rfl rfl rfl rfl ?_
    have q301 : F267 (sc) (7 : Int) = F (sc) (7 : Int) := (show F267 (sc) (7 : Int) = F (sc) (7 : Int) from hM270 _ _ o_sc (fun w => by have q1 := t_sc; rw [w, t_p] at q1; exact absurd q1 (by decide)) (by rw [t_sc]; rfl))
    have q302 := tz_b (F267 (sc) (15 : Int))
    have q303 := lz_b (F267 (sc) (14 : Int))
    exact Or.inl ⟨m266, tg266, ln266, F267, rfl, rfl, hX296, hC269, hM289, by omega, by omega, by omega, by omega, by omega, by omega, (WK_m p277 (by omega)), c278, c300, trivial⟩
  by_cases h304 : F (sc) (15 : Int) = 12
  · refine jx_swe (tg := 149) h304 rfl rfl rfl rfl ?_
    have t305 : tz (F (sc) (15 : Int)) = 1 := tz_p (by omega)
    refine jx_ld (pc_q := 150) (l_q := L0) (st_q := [rv (me)]) rfl (jl_rvn g1) ?_
    refine cx_gr (pc_q := 153) (c := 8) (q := 1) (v := sc) rfl rfl (by decide) (by decide) rfl rfl o_me t_me e_sc ?_
    have q306 := tz_b (F (sc) (15 : Int))
    have q307 := lz_b (F (sc) (14 : Int))
    refine cx_vi (c := 10) (a := sc) (st := []) (as := []) rfl rfl rfl o_sc t_sc (by decide) rfl ⟨rfl, rfl, (Nat.le_of_ble_eq_true rfl)⟩ rfl (k_LScanner_next (dd := d) (R := R) (m := m) (tg := tg) (ln := ln) (F := F) (me := sc) (hd := by omega) (hC := hC) (o_me := o_sc) (t_me := t_sc) (p_0 := by omega) (p_1 := by omega)) (fun o V_q hq => ?_)
    obtain ⟨F308, rfl, rfl, hC309, hM310, p311, p312, p313, -⟩ := hq
    have hM314 : Fq p [(7, 15), (9, 2), (9, 3), (10, 0), (10, 1), (10, 2), (10, 8), (10, 9), (11, 8), (11, 12), (11, 13), (11, 14), (11, 15), (11, 16), (11, 17), (11, 18)] m tg F F308 := Fq_t (ln := ln) (ln1 := ln) hM0 hX0 hM310 (by decide) (Or.inr (Or.inl rfl))
    have c315 : NP m tg F308 := NP_q hC c_NP hM310 rfl rfl
    refine Or.inl ⟨rfl, ?_⟩
    refine jx_ld (pc_q := 157) (l_q := L0) (st_q := [rv (p)]) rfl (jl_rvn g2) ?_
    refine jx_ar (pc_q := 159) (st_q := [.int (i32 (9)), rv (p)]) rfl rfl rfl rfl ?_
    refine cx_pi (pc_q := 162) (c := 7) (q := 0) (qi := (0 : Int)) (z := 9) rfl rfl (by decide) (by decide) rfl rfl rfl (by decide) rfl o_p t_p rfl ?_
    obtain ⟨F316, eF316⟩ : ∃ q, q = uF F308 (p) (0 : Int) (9) := ⟨_, rfl⟩
    rw [← eF316]
    have hC317 : HC 0 m tg ln F316 := by rw [eF316]; exact HC_fi (c := 7) (q := 0) hC309 t_p (by decide) rfl (by omega) (by omega) ⟨fun w => absurd w (by decide), fun w => absurd w (by decide)⟩
    have hM318 : Fq p [(7, 15), (9, 2), (9, 3), (10, 0), (10, 1), (10, 2), (10, 8), (10, 9), (11, 8), (11, 12), (11, 13), (11, 14), (11, 15), (11, 16), (11, 17), (11, 18)] m tg F F316 := by rw [eF316]; exact Fq_x hM314 (Or.inl rfl)
    have c319 : NP m tg F316 := by rw [eF316]; exact NP_un hC309 c315 o_p t_p (by rw [show F308 (p) (103 : Int) = F (p) (103 : Int) from (show F308 (p) (103 : Int) = F (p) (103 : Int) from hM310 _ _ o_p (own_z o_p) (by rw [t_p]; rfl))]; omega) (by decide) (Or.inl (by decide))
    refine jx_ld (pc_q := 163) (l_q := L0) (st_q := [rv (me)]) rfl (jl_rvn g1) ?_
    refine jx_ar (pc_q := 165) (st_q := [.int (i32 (11)), rv (me)]) rfl rfl rfl rfl ?_
    have q320 : F316 (sc) (8 : Int) = F308 (sc) (8 : Int) := (show F316 (sc) (8 : Int) = F308 (sc) (8 : Int) from by rw [eF316]; exact uF_j (by decide))
    have q321 : F316 (sc) (15 : Int) = F308 (sc) (15 : Int) := (show F316 (sc) (15 : Int) = F308 (sc) (15 : Int) from by rw [eF316]; exact uF_j (by decide))
    have q322 : tz (F316 (sc) (15 : Int)) = tz (F308 (sc) (15 : Int)) := by rw [q321]
    have q323 := tz_b (F308 (sc) (15 : Int))
    have q324 : F316 (sc) (7 : Int) = F (sc) (7 : Int) := ((show F316 (sc) (7 : Int) = F308 (sc) (7 : Int) from by rw [eF316]; exact uF_j (by decide)).trans (show F308 (sc) (7 : Int) = F (sc) (7 : Int) from hM310 _ _ o_sc (own_z o_sc) (by rw [t_sc]; rfl)))
    have q325 : F316 (sc) (14 : Int) = F308 (sc) (14 : Int) := (show F316 (sc) (14 : Int) = F308 (sc) (14 : Int) from by rw [eF316]; exact uF_j (by decide))
    have q326 : lz (F316 (sc) (14 : Int)) = lz (F308 (sc) (14 : Int)) := by rw [q325]
    have q327 := lz_b (F308 (sc) (14 : Int))
    have q328 : F316 (pg) (9 : Int) = F (pg) (9 : Int) := ((show F316 (pg) (9 : Int) = F308 (pg) (9 : Int) from by rw [eF316]; exact uF_j (by decide)).trans (show F308 (pg) (9 : Int) = F (pg) (9 : Int) from hM310 _ _ o_pg (own_z o_pg) (by rw [t_pg]; rfl)))
    refine cx_vi (c := 8) (a := me) (st := []) (as := [.int (i32 (11))]) rfl rfl rfl o_me t_me (by decide) rfl ⟨rfl, rfl, (Nat.le_of_ble_eq_true rfl)⟩ rfl (k_LParser_expect (dd := d) (R := R) (m := m) (tg := tg) (ln := ln) (F := F316) (me := me) (tk := 11) (hd := by omega) (hC := hC317) (o_me := o_me) (t_me := t_me) (h_tk := by omega) (sc := sc) (pg := pg) (o_sc := o_sc) (t_sc := t_sc) (e_sc := (((show F316 (me) (1 : Int) = F308 (me) (1 : Int) from by rw [eF316]; exact uF_j (by decide)).trans (show F308 (me) (1 : Int) = F (me) (1 : Int) from hM310 _ _ o_me (own_z o_me) (by rw [t_me]; rfl))).trans e_sc)) (o_pg := o_pg) (t_pg := t_pg) (e_pg := (((show F316 (me) (0 : Int) = F308 (me) (0 : Int) from by rw [eF316]; exact uF_a (fun w => by have q1 := t_me; have q2 := t_p; rw [w, q2] at q1; exact absurd q1 (by decide))).trans (show F308 (me) (0 : Int) = F (me) (0 : Int) from hM310 _ _ o_me (own_z o_me) (by rw [t_me]; rfl))).trans e_pg)) (p_0 := by omega) (p_1 := by omega) (p_2 := by omega) (p_3 := by omega) (c_NP := c319)) (fun o V_q hq => ?_)
    obtain ⟨m329, tg329, ln329, F330, rfl, rfl, hx331, hC332, hM333, p334, p335, p336, p337, p338, p339, p340, c341, c342, -⟩ | ⟨m343, tg343, ln343, F343, x343, rfl, rfl, hx343, hC343, hM343, ho343, ht343, p344, p345, p346, p347, c348, c349, -⟩ := hq
    rotate_left
    ·
      have c350 : NM m m343 tg343 := NM_t NM_0 hx343 c349
      have lm351 := hx343.1
      refine Or.inr (Or.inr (Or.inr ⟨_, _, rfl, cx_exc (c := 15) ho343 ht343 (by decide), rfl, ?_⟩))
      have q352 : F316 (sc) (8 : Int) = F308 (sc) (8 : Int) := q320
      have q353 : F316 (sc) (7 : Int) = F (sc) (7 : Int) := q324
      exact Or.inr ⟨m343, tg343, ln343, F343, x343, rfl, rfl, Ex_t hX0 hx343, hC343, Fq_t (ln := ln) (ln1 := ln) hM318 hX0 hM343 (by decide) (Or.inr (Or.inl rfl)), (And.intro ho343 ht343).1, (And.intro ho343 ht343).2, by omega, by omega, by omega, by omega, c348, c350, trivial⟩
    have hM354 : Fq p [(7, 15), (9, 2), (9, 3), (10, 0), (10, 1), (10, 2), (10, 8), (10, 9), (11, 8), (11, 12), (11, 13), (11, 14), (11, 15), (11, 16), (11, 17), (11, 18)] m tg F F330 := Fq_t (ln := ln) (ln1 := ln) hM318 hX0 hM333 (by decide) (Or.inr (Or.inl rfl))
    have lm355 := hx331.1
    have lt356 : p < 64 + (m : Int) := o_p.2.1
    have ho357 : own m329 (me) ∧ tg329 (me) = 9 := Ex_o hx331 ⟨o_me, t_me⟩
    have ho358 : own m329 (p) ∧ tg329 (p) = 8 := Ex_o hx331 ⟨o_p, t_p⟩
    have ho359 : own m329 (sc) ∧ tg329 (sc) = 11 := Ex_o hx331 ⟨o_sc, t_sc⟩
    have ho360 : own m329 (pg) ∧ tg329 (pg) = 10 := Ex_o hx331 ⟨o_pg, t_pg⟩
    have hX361 := Ex_t hX0 hx331
    have c362 : NM m m329 tg329 := NM_t NM_0 hx331 c342
    refine Or.inl ⟨rfl, ?_⟩
    refine jx_ld (pc_q := 169) (l_q := L0) (st_q := [rv (me)]) rfl (jl_rvn g1) ?_
    have q363 := tz_b (F330 (sc) (15 : Int))
    have q364 : F330 (sc) (7 : Int) = F (sc) (7 : Int) := ((show F330 (sc) (7 : Int) = F316 (sc) (7 : Int) from hM333 _ _ o_sc (own_z o_sc) (by rw [t_sc]; rfl)).trans q324)
    have q365 := lz_b (F330 (sc) (14 : Int))
    have q366 : F330 (pg) (9 : Int) = F (pg) (9 : Int) := ((show F330 (pg) (9 : Int) = F316 (pg) (9 : Int) from hM333 _ _ o_pg (own_z o_pg) (by rw [t_pg]; rfl)).trans q328)
    refine cx_vi (c := 8) (a := me) (st := []) (as := []) rfl rfl rfl ho357.1 ho357.2 (by decide) rfl ⟨rfl, rfl, (Nat.le_of_ble_eq_true rfl)⟩ rfl (k_LParser_endLine (dd := d) (R := R) (m := m329) (tg := tg329) (ln := ln329) (F := F330) (me := me) (hd := by omega) (hC := hC332) (o_me := ho357.1) (t_me := ho357.2) (sc := sc) (pg := pg) (o_sc := ho359.1) (t_sc := ho359.2) (e_sc := (((show F330 (me) (1 : Int) = F316 (me) (1 : Int) from hM333 _ _ o_me (own_z o_me) (by rw [t_me]; rfl)).trans ((show F316 (me) (1 : Int) = F308 (me) (1 : Int) from by rw [eF316]; exact uF_j (by decide)).trans (show F308 (me) (1 : Int) = F (me) (1 : Int) from hM310 _ _ o_me (own_z o_me) (by rw [t_me]; rfl)))).trans e_sc)) (o_pg := ho360.1) (t_pg := ho360.2) (e_pg := (((show F330 (me) (0 : Int) = F316 (me) (0 : Int) from hM333 _ _ o_me (own_z o_me) (by rw [t_me]; rfl)).trans ((show F316 (me) (0 : Int) = F308 (me) (0 : Int) from by rw [eF316]; exact uF_a (fun w => by have q1 := t_me; have q2 := t_p; rw [w, q2] at q1; exact absurd q1 (by decide))).trans (show F308 (me) (0 : Int) = F (me) (0 : Int) from hM310 _ _ o_me (own_z o_me) (by rw [t_me]; rfl)))).trans e_pg)) (p_0 := by omega) (p_1 := by omega) (p_2 := by omega) (c_NP := c341)) (fun o V_q hq => ?_)
    obtain ⟨m367, tg367, ln367, F368, rfl, rfl, hx369, hC370, hM371, p372, p373, p374, p375, p376, p377, p378, c379, c380, -⟩ | ⟨m381, tg381, ln381, F381, x381, rfl, rfl, hx381, hC381, hM381, ho381, ht381, p382, p383, p384, p385, c386, c387, -⟩ := hq
    rotate_left
    ·
      have c388 : NM m m381 tg381 := NM_t c362 hx381 c387
      have lm389 := hx381.1
      refine Or.inr (Or.inr (Or.inr ⟨_, _, rfl, cx_exc (c := 15) ho381 ht381 (by decide), rfl, ?_⟩))
      have q390 : F330 (sc) (7 : Int) = F (sc) (7 : Int) := q364
      exact Or.inr ⟨m381, tg381, ln381, F381, x381, rfl, rfl, Ex_t hX361 hx381, hC381, Fq_t (ln := ln) (ln1 := ln329) hM354 hX361 hM381 (by decide) (Or.inr (Or.inl rfl)), (And.intro ho381 ht381).1, (And.intro ho381 ht381).2, by omega, by omega, by omega, by omega, c386, c388, trivial⟩
    have hM391 : Fq p [(7, 15), (9, 2), (9, 3), (10, 0), (10, 1), (10, 2), (10, 8), (10, 9), (11, 8), (11, 12), (11, 13), (11, 14), (11, 15), (11, 16), (11, 17), (11, 18)] m tg F F368 := Fq_t (ln := ln) (ln1 := ln329) hM354 hX361 hM371 (by decide) (Or.inr (Or.inl rfl))
    have lm392 := hx369.1
    have lt393 : p < 64 + (m329 : Int) := ho358.1.2.1
    have ho394 : own m367 (me) ∧ tg367 (me) = 9 := Ex_o hx369 ⟨ho357.1, ho357.2⟩
    have ho395 : own m367 (p) ∧ tg367 (p) = 8 := Ex_o hx369 ⟨ho358.1, ho358.2⟩
    have ho396 : own m367 (sc) ∧ tg367 (sc) = 11 := Ex_o hx369 ⟨ho359.1, ho359.2⟩
    have ho397 : own m367 (pg) ∧ tg367 (pg) = 10 := Ex_o hx369 ⟨ho360.1, ho360.2⟩
    have hX398 := Ex_t hX361 hx369
    have c399 : NM m m367 tg367 := NM_t c362 hx369 c380
    refine Or.inl ⟨rfl, ?_⟩
    refine jx_ld (pc_q := 173) (l_q := L0) (st_q := [rv (me)]) rfl (jl_rvn g1) ?_
    refine jx_ld (pc_q := 174) (l_q := L0) (st_q := [rv (p), rv (me)]) rfl (jl_rvn g2) ?_
    refine jx_ld (pc_q := 175) (l_q := L0) (st_q := [.int (i32 (lv)), rv (p), rv (me)]) rfl (jl_iloadn g3) ?_
    refine jx_ar (pc_q := 176) (st_q := [.int (i32 (1)), .int (i32 (lv)), rv (p), rv (me)]) rfl rfl rfl rfl ?_
    refine jx_add (pc_q := 177) rfl rfl ?_
    refine jx_ar (pc_q := 178) (st_q := [.int (i32 (2)), .int (i32 ((lv + 1))), rv (p), rv (me)]) rfl rfl rfl rfl ?_
    have q400 := tz_b (F368 (sc) (15 : Int))
    have q401 : F368 (sc) (7 : Int) = F (sc) (7 : Int) := ((show F368 (sc) (7 : Int) = F330 (sc) (7 : Int) from hM371 _ _ ho359.1 (own_z ho359.1) (by rw [ho359.2]; rfl)).trans q364)
    have q402 := lz_b (F368 (sc) (14 : Int))
    have q403 : F368 (p) (0 : Int) = 9 := ((show F368 (p) (0 : Int) = F330 (p) (0 : Int) from hM371 _ _ ho358.1 (own_z ho358.1) (by rw [ho358.2]; rfl)).trans ((show F330 (p) (0 : Int) = F316 (p) (0 : Int) from hM333 _ _ o_p (own_z o_p) (by rw [t_p]; rfl)).trans (show F316 (p) (0 : Int) = 9 from by rw [eF316]; exact uF_e)))
    have q404 : F368 (p) (4 : Int) = F (p) (4 : Int) := ((show F368 (p) (4 : Int) = F330 (p) (4 : Int) from hM371 _ _ ho358.1 (own_z ho358.1) (by rw [ho358.2]; rfl)).trans ((show F330 (p) (4 : Int) = F316 (p) (4 : Int) from hM333 _ _ o_p (own_z o_p) (by rw [t_p]; rfl)).trans ((show F316 (p) (4 : Int) = F308 (p) (4 : Int) from by rw [eF316]; exact uF_j (by decide)).trans (show F308 (p) (4 : Int) = F (p) (4 : Int) from hM310 _ _ o_p (own_z o_p) (by rw [t_p]; rfl)))))
    have q405 : F368 (p) (5 : Int) = F (p) (5 : Int) := ((show F368 (p) (5 : Int) = F330 (p) (5 : Int) from hM371 _ _ ho358.1 (own_z ho358.1) (by rw [ho358.2]; rfl)).trans ((show F330 (p) (5 : Int) = F316 (p) (5 : Int) from hM333 _ _ o_p (own_z o_p) (by rw [t_p]; rfl)).trans ((show F316 (p) (5 : Int) = F308 (p) (5 : Int) from by rw [eF316]; exact uF_j (by decide)).trans (show F308 (p) (5 : Int) = F (p) (5 : Int) from hM310 _ _ o_p (own_z o_p) (by rw [t_p]; rfl)))))
    have q406 : F368 (p) (6 : Int) = F (p) (6 : Int) := ((show F368 (p) (6 : Int) = F330 (p) (6 : Int) from hM371 _ _ ho358.1 (own_z ho358.1) (by rw [ho358.2]; rfl)).trans ((show F330 (p) (6 : Int) = F316 (p) (6 : Int) from hM333 _ _ o_p (own_z o_p) (by rw [t_p]; rfl)).trans ((show F316 (p) (6 : Int) = F308 (p) (6 : Int) from by rw [eF316]; exact uF_j (by decide)).trans (show F308 (p) (6 : Int) = F (p) (6 : Int) from hM310 _ _ o_p (own_z o_p) (by rw [t_p]; rfl)))))
    have q407 : F368 (p) (7 : Int) = F (p) (7 : Int) := ((show F368 (p) (7 : Int) = F330 (p) (7 : Int) from hM371 _ _ ho358.1 (own_z ho358.1) (by rw [ho358.2]; rfl)).trans ((show F330 (p) (7 : Int) = F316 (p) (7 : Int) from hM333 _ _ o_p (own_z o_p) (by rw [t_p]; rfl)).trans ((show F316 (p) (7 : Int) = F308 (p) (7 : Int) from by rw [eF316]; exact uF_j (by decide)).trans (show F308 (p) (7 : Int) = F (p) (7 : Int) from hM310 _ _ o_p (own_z o_p) (by rw [t_p]; rfl)))))
    have q408 : F368 (p) (8 : Int) = F (p) (8 : Int) := ((show F368 (p) (8 : Int) = F330 (p) (8 : Int) from hM371 _ _ ho358.1 (own_z ho358.1) (by rw [ho358.2]; rfl)).trans ((show F330 (p) (8 : Int) = F316 (p) (8 : Int) from hM333 _ _ o_p (own_z o_p) (by rw [t_p]; rfl)).trans ((show F316 (p) (8 : Int) = F308 (p) (8 : Int) from by rw [eF316]; exact uF_j (by decide)).trans (show F308 (p) (8 : Int) = F (p) (8 : Int) from hM310 _ _ o_p (own_z o_p) (by rw [t_p]; rfl)))))
    have q409 : F368 (p) (101 : Int) = F (p) (101 : Int) := ((show F368 (p) (101 : Int) = F330 (p) (101 : Int) from hM371 _ _ ho358.1 (own_z ho358.1) (by rw [ho358.2]; rfl)).trans ((show F330 (p) (101 : Int) = F316 (p) (101 : Int) from hM333 _ _ o_p (own_z o_p) (by rw [t_p]; rfl)).trans ((show F316 (p) (101 : Int) = F308 (p) (101 : Int) from by rw [eF316]; exact uF_j (by decide)).trans (show F308 (p) (101 : Int) = F (p) (101 : Int) from hM310 _ _ o_p (own_z o_p) (by rw [t_p]; rfl)))))
    have q410 : F368 (p) (103 : Int) = F (p) (103 : Int) := ((show F368 (p) (103 : Int) = F330 (p) (103 : Int) from hM371 _ _ ho358.1 (own_z ho358.1) (by rw [ho358.2]; rfl)).trans ((show F330 (p) (103 : Int) = F316 (p) (103 : Int) from hM333 _ _ o_p (own_z o_p) (by rw [t_p]; rfl)).trans ((show F316 (p) (103 : Int) = F308 (p) (103 : Int) from by rw [eF316]; exact uF_j (by decide)).trans (show F308 (p) (103 : Int) = F (p) (103 : Int) from hM310 _ _ o_p (own_z o_p) (by rw [t_p]; rfl)))))
    have q411 : F368 (pg) (9 : Int) = F (pg) (9 : Int) := ((show F368 (pg) (9 : Int) = F330 (pg) (9 : Int) from hM371 _ _ ho360.1 (own_z ho360.1) (by rw [ho360.2]; rfl)).trans q366)
    refine cx_vi (c := 8) (a := me) (st := []) (as := [rv (p), .int (i32 ((lv + 1))), .int (i32 (2))]) rfl rfl rfl ho394.1 ho394.2 (by decide) rfl ⟨rfl, rfl, (Nat.le_of_ble_eq_true rfl)⟩ rfl (k_LParser_readBranches (dd := d) (R := R) (m := m367) (tg := tg367) (ln := ln367) (F := F368) (kk := kk) (hE := hE) (me := me) (p := p) (lv := (lv + 1)) (mo := 2) (hd := by omega) (hC := hC370) (o_me := ho394.1) (t_me := ho394.2) (o_p := ho395.1) (t_p := ho395.2) (h_lv := by omega) (h_mo := by omega) (sc := sc) (pg := pg) (o_sc := ho396.1) (t_sc := ho396.2) (e_sc := (((show F368 (me) (1 : Int) = F330 (me) (1 : Int) from hM371 _ _ ho357.1 (own_z ho357.1) (by rw [ho357.2]; rfl)).trans ((show F330 (me) (1 : Int) = F316 (me) (1 : Int) from hM333 _ _ o_me (own_z o_me) (by rw [t_me]; rfl)).trans ((show F316 (me) (1 : Int) = F308 (me) (1 : Int) from by rw [eF316]; exact uF_j (by decide)).trans (show F308 (me) (1 : Int) = F (me) (1 : Int) from hM310 _ _ o_me (own_z o_me) (by rw [t_me]; rfl))))).trans e_sc)) (o_pg := ho397.1) (t_pg := ho397.2) (e_pg := (((show F368 (me) (0 : Int) = F330 (me) (0 : Int) from hM371 _ _ ho357.1 (own_z ho357.1) (by rw [ho357.2]; rfl)).trans ((show F330 (me) (0 : Int) = F316 (me) (0 : Int) from hM333 _ _ o_me (own_z o_me) (by rw [t_me]; rfl)).trans ((show F316 (me) (0 : Int) = F308 (me) (0 : Int) from by rw [eF316]; exact uF_a (fun w => by have q1 := t_me; have q2 := t_p; rw [w, q2] at q1; exact absurd q1 (by decide))).trans (show F308 (me) (0 : Int) = F (me) (0 : Int) from hM310 _ _ o_me (own_z o_me) (by rw [t_me]; rfl))))).trans e_pg)) (p_0 := by omega) (p_1 := by omega) (p_2 := by omega) (p_3 := by omega) (p_4 := by omega) (p_5 := by omega) (p_6 := by omega) (p_7 := by omega) (p_8 := by omega) (p_9 := by omega) (p_10 := by omega) (p_11 := by omega) (p_12 := by omega) (c_NP := c379)) (fun o V_q hq => ?_)
    obtain ⟨m412, tg412, ln412, F413, rfl, rfl, hx414, hC415, hM416, p417, p418, p419, p420, p421, p422, p423, c424, c425, -⟩ | ⟨m426, tg426, ln426, F426, x426, rfl, rfl, hx426, hC426, hM426, ho426, ht426, p427, p428, p429, p430, c431, c432, -⟩ := hq
    rotate_left
    ·
      have c433 : NM m m426 tg426 := NM_t c399 hx426 c432
      have lm434 := hx426.1
      refine Or.inr (Or.inr (Or.inr ⟨_, _, rfl, cx_exc (c := 15) ho426 ht426 (by decide), rfl, ?_⟩))
      have q435 : F368 (sc) (7 : Int) = F (sc) (7 : Int) := q401
      exact Or.inr ⟨m426, tg426, ln426, F426, x426, rfl, rfl, Ex_t hX398 hx426, hC426, Fq_t (ln := ln) (ln1 := ln367) hM391 hX398 hM426 (by decide) (Or.inl rfl), (And.intro ho426 ht426).1, (And.intro ho426 ht426).2, by omega, by omega, by omega, by omega, c431, c433, trivial⟩
    have hM436 : Fq p [(7, 15), (9, 2), (9, 3), (10, 0), (10, 1), (10, 2), (10, 8), (10, 9), (11, 8), (11, 12), (11, 13), (11, 14), (11, 15), (11, 16), (11, 17), (11, 18)] m tg F F413 := Fq_t (ln := ln) (ln1 := ln367) hM391 hX398 hM416 (by decide) (Or.inl rfl)
    have lm437 := hx414.1
    have lt438 : p < 64 + (m367 : Int) := ho395.1.2.1
    have ho439 : own m412 (me) ∧ tg412 (me) = 9 := Ex_o hx414 ⟨ho394.1, ho394.2⟩
    have ho440 : own m412 (p) ∧ tg412 (p) = 8 := Ex_o hx414 ⟨ho395.1, ho395.2⟩
    have ho441 : own m412 (sc) ∧ tg412 (sc) = 11 := Ex_o hx414 ⟨ho396.1, ho396.2⟩
    have ho442 : own m412 (pg) ∧ tg412 (pg) = 10 := Ex_o hx414 ⟨ho397.1, ho397.2⟩
    have hX443 := Ex_t hX398 hx414
    have q444 := p423.1
    have q445 := p423.2.1
    have q446 := p423.2.2.1
    have c447 : NM m m412 tg412 := NM_t c399 hx414 c425
    refine Or.inl ⟨rfl, ?_⟩
    refine jx_go (tg := 245) rfl rfl ?_
    refine jx_rt (v := none) rfl rfl rfl rfl rfl rfl ?_
    have q448 : F413 (sc) (7 : Int) = F (sc) (7 : Int) := ((show F413 (sc) (7 : Int) = F368 (sc) (7 : Int) from hM416 _ _ ho396.1 (fun w => by have q1 := ho396.2; rw [w, ho395.2] at q1; exact absurd q1 (by decide)) (by rw [ho396.2]; rfl)).trans q401)
    have q449 := tz_b (F413 (sc) (15 : Int))
    have q450 := lz_b (F413 (sc) (14 : Int))
    exact Or.inl ⟨m412, tg412, ln412, F413, rfl, rfl, hX443, hC415, hM436, by omega, by omega, by omega, by omega, by omega, by omega, (WK_m p423 (by omega)), c424, c447, trivial⟩
  by_cases h451 : F (sc) (15 : Int) = 13
  · refine jx_swe (tg := 232) h451 rfl rfl rfl rfl ?_
    have t452 : tz (F (sc) (15 : Int)) = 1 := tz_p (by omega)
    refine jx_ld (pc_q := 233) (l_q := L0) (st_q := [rv (me)]) rfl (jl_rvn g1) ?_
    refine jx_ld (pc_q := 234) (l_q := L0) (st_q := [rv (p), rv (me)]) rfl (jl_rvn g2) ?_
    refine jx_ld (pc_q := 235) (l_q := L0) (st_q := [.int (i32 (lv)), rv (p), rv (me)]) rfl (jl_iloadn g3) ?_
    have q453 := tz_b (F (sc) (15 : Int))
    have q454 := lz_b (F (sc) (14 : Int))
    refine cx_vi (c := 8) (a := me) (st := []) (as := [rv (p), .int (i32 (lv))]) rfl rfl rfl o_me t_me (by decide) rfl ⟨rfl, rfl, (Nat.le_of_ble_eq_true rfl)⟩ rfl (k_LParser_readAlt (dd := d) (R := R) (m := m) (tg := tg) (ln := ln) (F := F) (kk := kk) (hE := hE) (me := me) (p := p) (lv := lv) (hd := by omega) (hC := hC) (o_me := o_me) (t_me := t_me) (o_p := o_p) (t_p := t_p) (h_lv := by omega) (sc := sc) (pg := pg) (o_sc := o_sc) (t_sc := t_sc) (e_sc := e_sc) (o_pg := o_pg) (t_pg := t_pg) (e_pg := e_pg) (p_0 := by omega) (p_1 := by omega) (p_2 := by omega) (p_3 := by omega) (p_4 := by omega) (p_5 := by omega) (p_6 := by omega) (p_7 := by omega) (p_8 := by omega) (p_9 := by omega) (p_10 := by omega) (p_11 := by omega) (p_12 := by omega) (p_13 := by omega) (p_14 := by omega) (p_15 := by omega) (c_NP := c_NP)) (fun o V_q hq => ?_)
    obtain ⟨m455, tg455, ln455, F456, rfl, rfl, hx457, hC458, hM459, p460, p461, p462, p463, p464, p465, p466, c467, c468, -⟩ | ⟨m469, tg469, ln469, F469, x469, rfl, rfl, hx469, hC469, hM469, ho469, ht469, p470, p471, p472, p473, c474, c475, -⟩ := hq
    rotate_left
    ·
      have c476 : NM m m469 tg469 := NM_t NM_0 hx469 c475
      have lm477 := hx469.1
      refine Or.inr (Or.inr (Or.inr ⟨_, _, rfl, cx_exc (c := 15) ho469 ht469 (by decide), rfl, ?_⟩))
      exact Or.inr ⟨m469, tg469, ln469, F469, x469, rfl, rfl, Ex_t hX0 hx469, hC469, Fq_t (ln := ln) (ln1 := ln) hM0 hX0 hM469 (by decide) (Or.inl rfl), (And.intro ho469 ht469).1, (And.intro ho469 ht469).2, by omega, by omega, by omega, by omega, c474, c476, trivial⟩
    have hM478 : Fq p [(7, 15), (9, 2), (9, 3), (10, 0), (10, 1), (10, 2), (10, 8), (10, 9), (11, 8), (11, 12), (11, 13), (11, 14), (11, 15), (11, 16), (11, 17), (11, 18)] m tg F F456 := Fq_t (ln := ln) (ln1 := ln) hM0 hX0 hM459 (by decide) (Or.inl rfl)
    have lm479 := hx457.1
    have lt480 : p < 64 + (m : Int) := o_p.2.1
    have ho481 : own m455 (me) ∧ tg455 (me) = 9 := Ex_o hx457 ⟨o_me, t_me⟩
    have ho482 : own m455 (p) ∧ tg455 (p) = 8 := Ex_o hx457 ⟨o_p, t_p⟩
    have ho483 : own m455 (sc) ∧ tg455 (sc) = 11 := Ex_o hx457 ⟨o_sc, t_sc⟩
    have ho484 : own m455 (pg) ∧ tg455 (pg) = 10 := Ex_o hx457 ⟨o_pg, t_pg⟩
    have hX485 := Ex_t hX0 hx457
    have q486 := p466.1
    have q487 := p466.2.1
    have q488 := p466.2.2.1
    have c489 : NM m m455 tg455 := NM_t NM_0 hx457 c468
    refine Or.inl ⟨rfl, ?_⟩
    refine jx_go (tg := 245) rfl rfl ?_
    refine jx_rt (v := none) rfl rfl rfl rfl rfl rfl ?_
    have q490 : F456 (sc) (7 : Int) = F (sc) (7 : Int) := (show F456 (sc) (7 : Int) = F (sc) (7 : Int) from hM459 _ _ o_sc (fun w => by have q1 := t_sc; rw [w, t_p] at q1; exact absurd q1 (by decide)) (by rw [t_sc]; rfl))
    have q491 := tz_b (F456 (sc) (15 : Int))
    have q492 := lz_b (F456 (sc) (14 : Int))
    exact Or.inl ⟨m455, tg455, ln455, F456, rfl, rfl, hX485, hC458, hM478, by omega, by omega, by omega, by omega, by omega, by omega, (WK_m p466 (by omega)), c467, c489, trivial⟩
  by_cases h493 : F (sc) (15 : Int) = 14
  · refine jx_swe (tg := 184) h493 rfl rfl rfl rfl ?_
    have t494 : tz (F (sc) (15 : Int)) = 1 := tz_p (by omega)
    refine jx_ld (pc_q := 185) (l_q := L0) (st_q := [rv (me)]) rfl (jl_rvn g1) ?_
    refine jx_ld (pc_q := 186) (l_q := L0) (st_q := [rv (p), rv (me)]) rfl (jl_rvn g2) ?_
    refine jx_ld (pc_q := 187) (l_q := L0) (st_q := [.int (i32 (lv)), rv (p), rv (me)]) rfl (jl_iloadn g3) ?_
    have q495 := tz_b (F (sc) (15 : Int))
    have q496 := lz_b (F (sc) (14 : Int))
    refine cx_vi (c := 8) (a := me) (st := []) (as := [rv (p), .int (i32 (lv))]) rfl rfl rfl o_me t_me (by decide) rfl ⟨rfl, rfl, (Nat.le_of_ble_eq_true rfl)⟩ rfl (k_LParser_readIf (dd := d) (R := R) (m := m) (tg := tg) (ln := ln) (F := F) (kk := kk) (hE := hE) (me := me) (p := p) (lv := lv) (hd := by omega) (hC := hC) (o_me := o_me) (t_me := t_me) (o_p := o_p) (t_p := t_p) (h_lv := by omega) (sc := sc) (pg := pg) (o_sc := o_sc) (t_sc := t_sc) (e_sc := e_sc) (o_pg := o_pg) (t_pg := t_pg) (e_pg := e_pg) (p_0 := by omega) (p_1 := by omega) (p_2 := by omega) (p_3 := by omega) (p_4 := by omega) (p_5 := by omega) (p_6 := by omega) (p_7 := by omega) (p_8 := by omega) (p_9 := by omega) (p_10 := by omega) (p_11 := by omega) (p_12 := by omega) (p_13 := by omega) (p_14 := by omega) (p_15 := by omega) (c_NP := c_NP)) (fun o V_q hq => ?_)
    obtain ⟨m497, tg497, ln497, F498, rfl, rfl, hx499, hC500, hM501, p502, p503, p504, p505, p506, p507, p508, c509, c510, -⟩ | ⟨m511, tg511, ln511, F511, x511, rfl, rfl, hx511, hC511, hM511, ho511, ht511, p512, p513, p514, p515, c516, c517, -⟩ := hq
    rotate_left
    ·
      have c518 : NM m m511 tg511 := NM_t NM_0 hx511 c517
      have lm519 := hx511.1
      refine Or.inr (Or.inr (Or.inr ⟨_, _, rfl, cx_exc (c := 15) ho511 ht511 (by decide), rfl, ?_⟩))
      exact Or.inr ⟨m511, tg511, ln511, F511, x511, rfl, rfl, Ex_t hX0 hx511, hC511, Fq_t (ln := ln) (ln1 := ln) hM0 hX0 hM511 (by decide) (Or.inl rfl), (And.intro ho511 ht511).1, (And.intro ho511 ht511).2, by omega, by omega, by omega, by omega, c516, c518, trivial⟩
    have hM520 : Fq p [(7, 15), (9, 2), (9, 3), (10, 0), (10, 1), (10, 2), (10, 8), (10, 9), (11, 8), (11, 12), (11, 13), (11, 14), (11, 15), (11, 16), (11, 17), (11, 18)] m tg F F498 := Fq_t (ln := ln) (ln1 := ln) hM0 hX0 hM501 (by decide) (Or.inl rfl)
    have lm521 := hx499.1
    have lt522 : p < 64 + (m : Int) := o_p.2.1
    have ho523 : own m497 (me) ∧ tg497 (me) = 9 := Ex_o hx499 ⟨o_me, t_me⟩
    have ho524 : own m497 (p) ∧ tg497 (p) = 8 := Ex_o hx499 ⟨o_p, t_p⟩
    have ho525 : own m497 (sc) ∧ tg497 (sc) = 11 := Ex_o hx499 ⟨o_sc, t_sc⟩
    have ho526 : own m497 (pg) ∧ tg497 (pg) = 10 := Ex_o hx499 ⟨o_pg, t_pg⟩
    have hX527 := Ex_t hX0 hx499
    have q528 := p508.1
    have q529 := p508.2.1
    have q530 := p508.2.2.1
    have c531 : NM m m497 tg497 := NM_t NM_0 hx499 c510
    refine Or.inl ⟨rfl, ?_⟩
    refine jx_go (tg := 245) rfl rfl ?_
    refine jx_rt (v := none) rfl rfl rfl rfl rfl rfl ?_
    have q532 : F498 (sc) (7 : Int) = F (sc) (7 : Int) := (show F498 (sc) (7 : Int) = F (sc) (7 : Int) from hM501 _ _ o_sc (fun w => by have q1 := t_sc; rw [w, t_p] at q1; exact absurd q1 (by decide)) (by rw [t_sc]; rfl))
    have q533 := tz_b (F498 (sc) (15 : Int))
    have q534 := lz_b (F498 (sc) (14 : Int))
    exact Or.inl ⟨m497, tg497, ln497, F498, rfl, rfl, hX527, hC500, hM520, by omega, by omega, by omega, by omega, by omega, by omega, (WK_m p508 (by omega)), c509, c531, trivial⟩
  by_cases h535 : F (sc) (15 : Int) = 15
  · refine jx_swe (tg := 193) h535 rfl rfl rfl rfl ?_
    have t536 : tz (F (sc) (15 : Int)) = 1 := tz_p (by omega)
    refine jx_ld (pc_q := 194) (l_q := L0) (st_q := [rv (me)]) rfl (jl_rvn g1) ?_
    refine cx_gr (pc_q := 197) (c := 8) (q := 1) (v := sc) rfl rfl (by decide) (by decide) rfl rfl o_me t_me e_sc ?_
    have q537 := tz_b (F (sc) (15 : Int))
    have q538 := lz_b (F (sc) (14 : Int))
    refine cx_vi (c := 10) (a := sc) (st := []) (as := []) rfl rfl rfl o_sc t_sc (by decide) rfl ⟨rfl, rfl, (Nat.le_of_ble_eq_true rfl)⟩ rfl (k_LScanner_next (dd := d) (R := R) (m := m) (tg := tg) (ln := ln) (F := F) (me := sc) (hd := by omega) (hC := hC) (o_me := o_sc) (t_me := t_sc) (p_0 := by omega) (p_1 := by omega)) (fun o V_q hq => ?_)
    obtain ⟨F539, rfl, rfl, hC540, hM541, p542, p543, p544, -⟩ := hq
    have hM545 : Fq p [(7, 15), (9, 2), (9, 3), (10, 0), (10, 1), (10, 2), (10, 8), (10, 9), (11, 8), (11, 12), (11, 13), (11, 14), (11, 15), (11, 16), (11, 17), (11, 18)] m tg F F539 := Fq_t (ln := ln) (ln1 := ln) hM0 hX0 hM541 (by decide) (Or.inr (Or.inl rfl))
    have c546 : NP m tg F539 := NP_q hC c_NP hM541 rfl rfl
    refine Or.inl ⟨rfl, ?_⟩
    refine jx_ld (pc_q := 201) (l_q := L0) (st_q := [rv (p)]) rfl (jl_rvn g2) ?_
    refine jx_ar (pc_q := 203) (st_q := [.int (i32 (12)), rv (p)]) rfl rfl rfl rfl ?_
    refine cx_pi (pc_q := 206) (c := 7) (q := 0) (qi := (0 : Int)) (z := 12) rfl rfl (by decide) (by decide) rfl rfl rfl (by decide) rfl o_p t_p rfl ?_
    obtain ⟨F547, eF547⟩ : ∃ q, q = uF F539 (p) (0 : Int) (12) := ⟨_, rfl⟩
    rw [← eF547]
    have hC548 : HC 0 m tg ln F547 := by rw [eF547]; exact HC_fi (c := 7) (q := 0) hC540 t_p (by decide) rfl (by omega) (by omega) ⟨fun w => absurd w (by decide), fun w => absurd w (by decide)⟩
    have hM549 : Fq p [(7, 15), (9, 2), (9, 3), (10, 0), (10, 1), (10, 2), (10, 8), (10, 9), (11, 8), (11, 12), (11, 13), (11, 14), (11, 15), (11, 16), (11, 17), (11, 18)] m tg F F547 := by rw [eF547]; exact Fq_x hM545 (Or.inl rfl)
    have c550 : NP m tg F547 := by rw [eF547]; exact NP_un hC540 c546 o_p t_p (by rw [show F539 (p) (103 : Int) = F (p) (103 : Int) from (show F539 (p) (103 : Int) = F (p) (103 : Int) from hM541 _ _ o_p (own_z o_p) (by rw [t_p]; rfl))]; omega) (by decide) (Or.inl (by decide))
    refine jx_ld (pc_q := 207) (l_q := L0) (st_q := [rv (p)]) rfl (jl_rvn g2) ?_
    refine jx_ld (pc_q := 208) (l_q := L0) (st_q := [rv (me), rv (p)]) rfl (jl_rvn g1) ?_
    have b551 : (0 : Int) ≤ F (me) (3 : Int) ∧ F (me) (3 : Int) ≤ 8 := by have z := HC_i (c := 8) (q := 3) hC548 o_me t_me (by decide) rfl; rw [show F547 (me) ((3 : Nat) : Int) = F (me) (3 : Int) from ((show F547 (me) (3 : Int) = F539 (me) (3 : Int) from by rw [eF547]; exact uF_j (by decide)).trans (show F539 (me) (3 : Int) = F (me) (3 : Int) from hM541 _ _ o_me (own_z o_me) (by rw [t_me]; rfl)))] at z; exact z
    have q552 : F547 (sc) (8 : Int) = F539 (sc) (8 : Int) := (show F547 (sc) (8 : Int) = F539 (sc) (8 : Int) from by rw [eF547]; exact uF_j (by decide))
    have q553 : F547 (sc) (15 : Int) = F539 (sc) (15 : Int) := (show F547 (sc) (15 : Int) = F539 (sc) (15 : Int) from by rw [eF547]; exact uF_j (by decide))
    have q554 : tz (F547 (sc) (15 : Int)) = tz (F539 (sc) (15 : Int)) := by rw [q553]
    have q555 := tz_b (F539 (sc) (15 : Int))
    have q556 : F547 (sc) (7 : Int) = F (sc) (7 : Int) := ((show F547 (sc) (7 : Int) = F539 (sc) (7 : Int) from by rw [eF547]; exact uF_j (by decide)).trans (show F539 (sc) (7 : Int) = F (sc) (7 : Int) from hM541 _ _ o_sc (own_z o_sc) (by rw [t_sc]; rfl)))
    have q557 : F547 (sc) (14 : Int) = F539 (sc) (14 : Int) := (show F547 (sc) (14 : Int) = F539 (sc) (14 : Int) from by rw [eF547]; exact uF_j (by decide))
    have q558 : lz (F547 (sc) (14 : Int)) = lz (F539 (sc) (14 : Int)) := by rw [q557]
    have q559 := lz_b (F539 (sc) (14 : Int))
    have q560 : F547 (me) (3 : Int) = F (me) (3 : Int) := ((show F547 (me) (3 : Int) = F539 (me) (3 : Int) from by rw [eF547]; exact uF_j (by decide)).trans (show F539 (me) (3 : Int) = F (me) (3 : Int) from hM541 _ _ o_me (own_z o_me) (by rw [t_me]; rfl)))
    have q561 : F547 (pg) (9 : Int) = F (pg) (9 : Int) := ((show F547 (pg) (9 : Int) = F539 (pg) (9 : Int) from by rw [eF547]; exact uF_j (by decide)).trans (show F539 (pg) (9 : Int) = F (pg) (9 : Int) from hM541 _ _ o_pg (own_z o_pg) (by rw [t_pg]; rfl)))
    refine cx_vi (c := 8) (a := me) (st := [rv (p)]) (as := []) rfl rfl rfl o_me t_me (by decide) rfl ⟨rfl, rfl, (by rw [jS_r, jS_0]; exact Nat.le_of_ble_eq_true rfl)⟩ rfl (PEx_all X 9 (dd := d) (R := R) (m := m) (tg := tg) (ln := ln) (F := F547) (me := me) (hd := by omega) (hC := hC548) (o_me := o_me) (t_me := t_me) (sc := sc) (pg := pg) (o_sc := o_sc) (t_sc := t_sc) (e_sc := (((show F547 (me) (1 : Int) = F539 (me) (1 : Int) from by rw [eF547]; exact uF_j (by decide)).trans (show F539 (me) (1 : Int) = F (me) (1 : Int) from hM541 _ _ o_me (own_z o_me) (by rw [t_me]; rfl))).trans e_sc)) (o_pg := o_pg) (t_pg := t_pg) (e_pg := (((show F547 (me) (0 : Int) = F539 (me) (0 : Int) from by rw [eF547]; exact uF_a (fun w => by have q1 := t_me; have q2 := t_p; rw [w, q2] at q1; exact absurd q1 (by decide))).trans (show F539 (me) (0 : Int) = F (me) (0 : Int) from hM541 _ _ o_me (own_z o_me) (by rw [t_me]; rfl))).trans e_pg)) (p_0 := by omega) (p_1 := by omega) (p_2 := by omega) (p_3 := by omega) (c_NP := c550)) (fun o V_q hq => ?_)
    obtain ⟨m562, tg562, ln562, F563, r564, rfl, rfl, hx565, hC566, hM567, b568, p569, p570, p571, p572, p573, p574, p575, p576, p577, p578, p579, c580, c581, -⟩ | ⟨m582, tg582, ln582, F582, x582, rfl, rfl, hx582, hC582, hM582, ho582, ht582, p583, p584, p585, p586, c587, c588, -⟩ := hq
    rotate_left
    ·
      have c589 : NM m m582 tg582 := NM_t NM_0 hx582 c588
      have lm590 := hx582.1
      refine Or.inr (Or.inr (Or.inr ⟨_, _, rfl, cx_exc (c := 15) ho582 ht582 (by decide), rfl, ?_⟩))
      have q591 : F547 (sc) (8 : Int) = F539 (sc) (8 : Int) := q552
      have q592 : F547 (sc) (7 : Int) = F (sc) (7 : Int) := q556
      exact Or.inr ⟨m582, tg582, ln582, F582, x582, rfl, rfl, Ex_t hX0 hx582, hC582, Fq_t (ln := ln) (ln1 := ln) hM549 hX0 hM582 (by decide) (Or.inr (Or.inl rfl)), (And.intro ho582 ht582).1, (And.intro ho582 ht582).2, by omega, by omega, by omega, by omega, c587, c589, trivial⟩
    have hM593 : Fq p [(7, 15), (9, 2), (9, 3), (10, 0), (10, 1), (10, 2), (10, 8), (10, 9), (11, 8), (11, 12), (11, 13), (11, 14), (11, 15), (11, 16), (11, 17), (11, 18)] m tg F F563 := Fq_t (ln := ln) (ln1 := ln) hM549 hX0 hM567 (by decide) (Or.inr (Or.inl rfl))
    have lm594 := hx565.1
    have lt595 : p < 64 + (m : Int) := o_p.2.1
    have ho596 : own m562 (me) ∧ tg562 (me) = 9 := Ex_o hx565 ⟨o_me, t_me⟩
    have ho597 : own m562 (p) ∧ tg562 (p) = 8 := Ex_o hx565 ⟨o_p, t_p⟩
    have ho598 : own m562 (sc) ∧ tg562 (sc) = 11 := Ex_o hx565 ⟨o_sc, t_sc⟩
    have ho599 : own m562 (pg) ∧ tg562 (pg) = 10 := Ex_o hx565 ⟨o_pg, t_pg⟩
    have hX600 := Ex_t hX0 hx565
    have q601 := p577.1
    have q602 := p577.2.1
    have q603 := p577.2.2.1
    have c604 : NM m m562 tg562 := NM_t NM_0 hx565 c581
    refine Or.inr (Or.inl ⟨_, rfl, ?_⟩)
    have q605 := p577.1
    have q606 := p577.2.1
    have q607 := p577.2.2.1
    rw [← cV_gh (F := F563) (a := r564) (j := 100) (z := 20) (Or.inr ⟨by decide, by rw [b568.2]; decide⟩)]
    obtain ⟨F608, eF608⟩ : ∃ q, q = uF F563 (r564) (100 : Int) (20) := ⟨_, rfl⟩
    rw [← eF608]
    have hC609 : HC 0 m562 tg562 ln562 F608 := by rw [eF608]; exact HC_gh hC566 (by rw [b568.2]; decide) (by decide)
    have hM610 : Fq p [(7, 15), (9, 2), (9, 3), (10, 0), (10, 1), (10, 2), (10, 8), (10, 9), (11, 8), (11, 12), (11, 13), (11, 14), (11, 15), (11, 16), (11, 17), (11, 18)] m tg F F608 := by rw [eF608]; exact Fq_x hM593 (Or.inr (by have := hX600.1; omega))
    rw [← cV_gh (F := F608) (a := r564) (j := 103) (z := 1) (Or.inr ⟨by decide, by rw [b568.2]; decide⟩)]
    obtain ⟨F611, eF611⟩ : ∃ q, q = uF F608 (r564) (103 : Int) (1) := ⟨_, rfl⟩
    rw [← eF611]
    have hC612 : HC 0 m562 tg562 ln562 F611 := by rw [eF611]; exact HC_gh hC609 (by rw [b568.2]; decide) (by decide)
    have hM613 : Fq p [(7, 15), (9, 2), (9, 3), (10, 0), (10, 1), (10, 2), (10, 8), (10, 9), (11, 8), (11, 12), (11, 13), (11, 14), (11, 15), (11, 16), (11, 17), (11, 18)] m tg F F611 := by rw [eF611]; exact Fq_x hM610 (Or.inr (by have := hX600.1; omega))
    have c614 : NP m562 tg562 F611 := by rw [eF611, eF608]; exact NP_seal hC566 c580 b568.1 b568.2 p577 (by omega)
    refine cx_po (pc_q := 214) (c := 7) (q := 4) (qi := (4 : Int)) (z := r564) rfl rfl (by decide) (by decide) rfl rfl rfl (by decide) rfl ho597.1 ho597.2 rfl ?_
    obtain ⟨F615, eF615⟩ : ∃ q, q = uF F611 (p) (4 : Int) (r564) := ⟨_, rfl⟩
    rw [← eF615]
    have hC616 : HC 0 m562 tg562 ln562 F615 := by rw [eF615]; exact HC_fr (c := 7) (q := 4) (by decide) hC612 ho597.2 (by decide) rfl (Or.inr ⟨b568.1, b568.2⟩) ⟨fun w => absurd w (by decide), fun w => absurd w (by decide)⟩
    have hM617 : Fq p [(7, 15), (9, 2), (9, 3), (10, 0), (10, 1), (10, 2), (10, 8), (10, 9), (11, 8), (11, 12), (11, 13), (11, 14), (11, 15), (11, 16), (11, 17), (11, 18)] m tg F F615 := by rw [eF615]; exact Fq_x hM613 (Or.inl rfl)
    have c618 : NP m562 tg562 F615 := by rw [eF615]; exact NP_un hC612 c614 ho597.1 ho597.2 (by rw [show F611 (p) (103 : Int) = F (p) (103 : Int) from ((show F611 (p) (103 : Int) = F608 (p) (103 : Int) from by rw [eF611]; exact uF_a (by omega)).trans ((show F608 (p) (103 : Int) = F563 (p) (103 : Int) from by rw [eF608]; exact uF_j (by decide)).trans ((show F563 (p) (103 : Int) = F547 (p) (103 : Int) from hM567 _ _ o_p (own_z o_p) (by rw [t_p]; rfl)).trans ((show F547 (p) (103 : Int) = F539 (p) (103 : Int) from by rw [eF547]; exact uF_j (by decide)).trans (show F539 (p) (103 : Int) = F (p) (103 : Int) from hM541 _ _ o_p (own_z o_p) (by rw [t_p]; rfl))))))]; omega) (by decide) (Or.inl (by decide))
    refine jx_ld (pc_q := 215) (l_q := L0) (st_q := [rv (me)]) rfl (jl_rvn g1) ?_
    have q619 : F615 (sc) (8 : Int) = F563 (sc) (8 : Int) := ((show F615 (sc) (8 : Int) = F611 (sc) (8 : Int) from by rw [eF615]; exact uF_j (by decide)).trans ((show F611 (sc) (8 : Int) = F608 (sc) (8 : Int) from by rw [eF611]; exact uF_j (by decide)).trans (show F608 (sc) (8 : Int) = F563 (sc) (8 : Int) from by rw [eF608]; exact uF_j (by decide))))
    have q620 : F615 (sc) (15 : Int) = F563 (sc) (15 : Int) := ((show F615 (sc) (15 : Int) = F611 (sc) (15 : Int) from by rw [eF615]; exact uF_j (by decide)).trans ((show F611 (sc) (15 : Int) = F608 (sc) (15 : Int) from by rw [eF611]; exact uF_j (by decide)).trans (show F608 (sc) (15 : Int) = F563 (sc) (15 : Int) from by rw [eF608]; exact uF_j (by decide))))
    have q621 : tz (F615 (sc) (15 : Int)) = tz (F563 (sc) (15 : Int)) := by rw [q620]
    have q622 := tz_b (F563 (sc) (15 : Int))
    have q623 : F615 (sc) (7 : Int) = F (sc) (7 : Int) := ((show F615 (sc) (7 : Int) = F611 (sc) (7 : Int) from by rw [eF615]; exact uF_j (by decide)).trans ((show F611 (sc) (7 : Int) = F608 (sc) (7 : Int) from by rw [eF611]; exact uF_j (by decide)).trans ((show F608 (sc) (7 : Int) = F563 (sc) (7 : Int) from by rw [eF608]; exact uF_j (by decide)).trans ((show F563 (sc) (7 : Int) = F547 (sc) (7 : Int) from hM567 _ _ o_sc (own_z o_sc) (by rw [t_sc]; rfl)).trans q556))))
    have q624 : F615 (sc) (14 : Int) = F563 (sc) (14 : Int) := ((show F615 (sc) (14 : Int) = F611 (sc) (14 : Int) from by rw [eF615]; exact uF_j (by decide)).trans ((show F611 (sc) (14 : Int) = F608 (sc) (14 : Int) from by rw [eF611]; exact uF_j (by decide)).trans (show F608 (sc) (14 : Int) = F563 (sc) (14 : Int) from by rw [eF608]; exact uF_j (by decide))))
    have q625 : lz (F615 (sc) (14 : Int)) = lz (F563 (sc) (14 : Int)) := by rw [q624]
    have q626 := lz_b (F563 (sc) (14 : Int))
    have q627 : F615 (pg) (9 : Int) = F563 (pg) (9 : Int) := ((show F615 (pg) (9 : Int) = F611 (pg) (9 : Int) from by rw [eF615]; exact uF_j (by decide)).trans ((show F611 (pg) (9 : Int) = F608 (pg) (9 : Int) from by rw [eF611]; exact uF_j (by decide)).trans (show F608 (pg) (9 : Int) = F563 (pg) (9 : Int) from by rw [eF608]; exact uF_j (by decide))))
    refine cx_vi (c := 8) (a := me) (st := []) (as := []) rfl rfl rfl ho596.1 ho596.2 (by decide) rfl ⟨rfl, rfl, (Nat.le_of_ble_eq_true rfl)⟩ rfl (k_LParser_endLine (dd := d) (R := R) (m := m562) (tg := tg562) (ln := ln562) (F := F615) (me := me) (hd := by omega) (hC := hC616) (o_me := ho596.1) (t_me := ho596.2) (sc := sc) (pg := pg) (o_sc := ho598.1) (t_sc := ho598.2) (e_sc := (((show F615 (me) (1 : Int) = F611 (me) (1 : Int) from by rw [eF615]; exact uF_j (by decide)).trans ((show F611 (me) (1 : Int) = F608 (me) (1 : Int) from by rw [eF611]; exact uF_j (by decide)).trans ((show F608 (me) (1 : Int) = F563 (me) (1 : Int) from by rw [eF608]; exact uF_j (by decide)).trans ((show F563 (me) (1 : Int) = F547 (me) (1 : Int) from hM567 _ _ o_me (own_z o_me) (by rw [t_me]; rfl)).trans ((show F547 (me) (1 : Int) = F539 (me) (1 : Int) from by rw [eF547]; exact uF_j (by decide)).trans (show F539 (me) (1 : Int) = F (me) (1 : Int) from hM541 _ _ o_me (own_z o_me) (by rw [t_me]; rfl))))))).trans e_sc)) (o_pg := ho599.1) (t_pg := ho599.2) (e_pg := (((show F615 (me) (0 : Int) = F611 (me) (0 : Int) from by rw [eF615]; exact uF_j (by decide)).trans ((show F611 (me) (0 : Int) = F608 (me) (0 : Int) from by rw [eF611]; exact uF_j (by decide)).trans ((show F608 (me) (0 : Int) = F563 (me) (0 : Int) from by rw [eF608]; exact uF_j (by decide)).trans ((show F563 (me) (0 : Int) = F547 (me) (0 : Int) from hM567 _ _ o_me (own_z o_me) (by rw [t_me]; rfl)).trans ((show F547 (me) (0 : Int) = F539 (me) (0 : Int) from by rw [eF547]; exact uF_a (fun w => by have q1 := t_me; have q2 := t_p; rw [w, q2] at q1; exact absurd q1 (by decide))).trans (show F539 (me) (0 : Int) = F (me) (0 : Int) from hM541 _ _ o_me (own_z o_me) (by rw [t_me]; rfl))))))).trans e_pg)) (p_0 := by omega) (p_1 := by omega) (p_2 := by omega) (c_NP := c618)) (fun o V_q hq => ?_)
    obtain ⟨m628, tg628, ln628, F629, rfl, rfl, hx630, hC631, hM632, p633, p634, p635, p636, p637, p638, p639, c640, c641, -⟩ | ⟨m642, tg642, ln642, F642, x642, rfl, rfl, hx642, hC642, hM642, ho642, ht642, p643, p644, p645, p646, c647, c648, -⟩ := hq
    rotate_left
    ·
      have c649 : NM m m642 tg642 := NM_t c604 hx642 c648
      have lm650 := hx642.1
      refine Or.inr (Or.inr (Or.inr ⟨_, _, rfl, cx_exc (c := 15) ho642 ht642 (by decide), rfl, ?_⟩))
      have q651 : F615 (sc) (8 : Int) = F563 (sc) (8 : Int) := q619
      have q652 : F615 (sc) (7 : Int) = F (sc) (7 : Int) := q623
      exact Or.inr ⟨m642, tg642, ln642, F642, x642, rfl, rfl, Ex_t hX600 hx642, hC642, Fq_t (ln := ln) (ln1 := ln562) hM617 hX600 hM642 (by decide) (Or.inr (Or.inl rfl)), (And.intro ho642 ht642).1, (And.intro ho642 ht642).2, by omega, by omega, by omega, by omega, c647, c649, trivial⟩
    have hM653 : Fq p [(7, 15), (9, 2), (9, 3), (10, 0), (10, 1), (10, 2), (10, 8), (10, 9), (11, 8), (11, 12), (11, 13), (11, 14), (11, 15), (11, 16), (11, 17), (11, 18)] m tg F F629 := Fq_t (ln := ln) (ln1 := ln562) hM617 hX600 hM632 (by decide) (Or.inr (Or.inl rfl))
    have lm654 := hx630.1
    have lt655 : p < 64 + (m562 : Int) := ho597.1.2.1
    have lt656 : r564 < 64 + (m562 : Int) := b568.1.2.1
    have ho657 : own m628 (me) ∧ tg628 (me) = 9 := Ex_o hx630 ⟨ho596.1, ho596.2⟩
    have ho658 : own m628 (p) ∧ tg628 (p) = 8 := Ex_o hx630 ⟨ho597.1, ho597.2⟩
    have ho659 : own m628 (sc) ∧ tg628 (sc) = 11 := Ex_o hx630 ⟨ho598.1, ho598.2⟩
    have ho660 : own m628 (pg) ∧ tg628 (pg) = 10 := Ex_o hx630 ⟨ho599.1, ho599.2⟩
    have ho661 : own m628 (r564) ∧ tg628 (r564) = 8 := Ex_o hx630 ⟨b568.1, b568.2⟩
    have hX662 := Ex_t hX600 hx630
    have c663 : NM m m628 tg628 := NM_t c604 hx630 c641
    refine Or.inl ⟨rfl, ?_⟩
    refine jx_ld (pc_q := 219) (l_q := L0) (st_q := [rv (p)]) rfl (jl_rvn g2) ?_
    refine jx_ld (pc_q := 220) (l_q := L0) (st_q := [rv (me), rv (p)]) rfl (jl_rvn g1) ?_
    refine jx_ld (pc_q := 221) (l_q := L0) (st_q := [.int (i32 (lv)), rv (me), rv (p)]) rfl (jl_iloadn g3) ?_
    refine jx_ar (pc_q := 222) (st_q := [.int (i32 (1)), .int (i32 (lv)), rv (me), rv (p)]) rfl rfl rfl rfl ?_
    refine jx_add (pc_q := 223) rfl rfl ?_
    have q664 := tz_b (F629 (sc) (15 : Int))
    have q665 : F629 (sc) (7 : Int) = F (sc) (7 : Int) := ((show F629 (sc) (7 : Int) = F615 (sc) (7 : Int) from hM632 _ _ ho598.1 (own_z ho598.1) (by rw [ho598.2]; rfl)).trans q623)
    have q666 := lz_b (F629 (sc) (14 : Int))
    have q667 : F629 (pg) (9 : Int) = F563 (pg) (9 : Int) := ((show F629 (pg) (9 : Int) = F615 (pg) (9 : Int) from hM632 _ _ ho599.1 (own_z ho599.1) (by rw [ho599.2]; rfl)).trans q627)
    have q668 : F629 (me) (2 : Int) = F (me) (2 : Int) := ((show F629 (me) (2 : Int) = F615 (me) (2 : Int) from hM632 _ _ ho596.1 (own_z ho596.1) (by rw [ho596.2]; rfl)).trans ((show F615 (me) (2 : Int) = F611 (me) (2 : Int) from by rw [eF615]; exact uF_j (by decide)).trans ((show F611 (me) (2 : Int) = F608 (me) (2 : Int) from by rw [eF611]; exact uF_j (by decide)).trans ((show F608 (me) (2 : Int) = F563 (me) (2 : Int) from by rw [eF608]; exact uF_j (by decide)).trans ((show F563 (me) (2 : Int) = F547 (me) (2 : Int) from hM567 _ _ o_me (own_z o_me) (by rw [t_me]; rfl)).trans ((show F547 (me) (2 : Int) = F539 (me) (2 : Int) from by rw [eF547]; exact uF_j (by decide)).trans (show F539 (me) (2 : Int) = F (me) (2 : Int) from hM541 _ _ o_me (own_z o_me) (by rw [t_me]; rfl))))))))
    have hE669 := hE (by omega)
    refine cx_vi (c := 8) (a := me) (st := [rv (p)]) (as := [.int (i32 ((lv + 1)))]) rfl rfl rfl ho657.1 ho657.2 (by decide) rfl ⟨rfl, rfl, (by rw [jS_r, jS_0]; exact Nat.le_of_ble_eq_true rfl)⟩ rfl (hE669 (dd := d) (R := R) (m := m628) (tg := tg628) (ln := ln628) (F := F629) (me := me) (lv := (lv + 1)) (hd := by omega) (hC := hC631) (o_me := ho657.1) (t_me := ho657.2) (h_lv := by omega) (sc := sc) (pg := pg) (o_sc := ho659.1) (t_sc := ho659.2) (e_sc := (((show F629 (me) (1 : Int) = F615 (me) (1 : Int) from hM632 _ _ ho596.1 (own_z ho596.1) (by rw [ho596.2]; rfl)).trans ((show F615 (me) (1 : Int) = F611 (me) (1 : Int) from by rw [eF615]; exact uF_j (by decide)).trans ((show F611 (me) (1 : Int) = F608 (me) (1 : Int) from by rw [eF611]; exact uF_j (by decide)).trans ((show F608 (me) (1 : Int) = F563 (me) (1 : Int) from by rw [eF608]; exact uF_j (by decide)).trans ((show F563 (me) (1 : Int) = F547 (me) (1 : Int) from hM567 _ _ o_me (own_z o_me) (by rw [t_me]; rfl)).trans ((show F547 (me) (1 : Int) = F539 (me) (1 : Int) from by rw [eF547]; exact uF_j (by decide)).trans (show F539 (me) (1 : Int) = F (me) (1 : Int) from hM541 _ _ o_me (own_z o_me) (by rw [t_me]; rfl)))))))).trans e_sc)) (o_pg := ho660.1) (t_pg := ho660.2) (e_pg := (((show F629 (me) (0 : Int) = F615 (me) (0 : Int) from hM632 _ _ ho596.1 (own_z ho596.1) (by rw [ho596.2]; rfl)).trans ((show F615 (me) (0 : Int) = F611 (me) (0 : Int) from by rw [eF615]; exact uF_j (by decide)).trans ((show F611 (me) (0 : Int) = F608 (me) (0 : Int) from by rw [eF611]; exact uF_j (by decide)).trans ((show F608 (me) (0 : Int) = F563 (me) (0 : Int) from by rw [eF608]; exact uF_j (by decide)).trans ((show F563 (me) (0 : Int) = F547 (me) (0 : Int) from hM567 _ _ o_me (own_z o_me) (by rw [t_me]; rfl)).trans ((show F547 (me) (0 : Int) = F539 (me) (0 : Int) from by rw [eF547]; exact uF_a (fun w => by have q1 := t_me; have q2 := t_p; rw [w, q2] at q1; exact absurd q1 (by decide))).trans (show F539 (me) (0 : Int) = F (me) (0 : Int) from hM541 _ _ o_me (own_z o_me) (by rw [t_me]; rfl)))))))).trans e_pg)) (p_0 := by omega) (p_1 := by omega) (p_2 := by omega) (p_3 := by omega) (c_NP := c640)) (fun o V_q hq => ?_)
    obtain ⟨m670, tg670, ln670, F671, r672, rfl, rfl, hx673, hC674, hM675, b676, p677, p678, p679, p680, p681, p682, p683, p684, p685, p686, p687, p688, c689, c690, -⟩ | ⟨m691, tg691, ln691, F691, x691, rfl, rfl, hx691, hC691, hM691, ho691, ht691, p692, p693, p694, p695, c696, c697, -⟩ := hq
    rotate_left
    ·
      have c698 : NM m m691 tg691 := NM_t c663 hx691 c697
      have lm699 := hx691.1
      refine Or.inr (Or.inr (Or.inr ⟨_, _, rfl, cx_exc (c := 15) ho691 ht691 (by decide), rfl, ?_⟩))
      have q700 : F629 (sc) (7 : Int) = F (sc) (7 : Int) := q665
      exact Or.inr ⟨m691, tg691, ln691, F691, x691, rfl, rfl, Ex_t hX662 hx691, hC691, Fq_t (ln := ln) (ln1 := ln628) hM653 hX662 hM691 (by decide) (Or.inr (Or.inl rfl)), (And.intro ho691 ht691).1, (And.intro ho691 ht691).2, by omega, by omega, by omega, by omega, c696, c698, trivial⟩
    have hM701 : Fq p [(7, 15), (9, 2), (9, 3), (10, 0), (10, 1), (10, 2), (10, 8), (10, 9), (11, 8), (11, 12), (11, 13), (11, 14), (11, 15), (11, 16), (11, 17), (11, 18)] m tg F F671 := Fq_t (ln := ln) (ln1 := ln628) hM653 hX662 hM675 (by decide) (Or.inr (Or.inl rfl))
    have lm702 := hx673.1
    have lt703 : p < 64 + (m628 : Int) := ho658.1.2.1
    have lt704 : r564 < 64 + (m628 : Int) := ho661.1.2.1
    have ho705 : own m670 (me) ∧ tg670 (me) = 9 := Ex_o hx673 ⟨ho657.1, ho657.2⟩
    have ho706 : own m670 (p) ∧ tg670 (p) = 8 := Ex_o hx673 ⟨ho658.1, ho658.2⟩
    have ho707 : own m670 (sc) ∧ tg670 (sc) = 11 := Ex_o hx673 ⟨ho659.1, ho659.2⟩
    have ho708 : own m670 (pg) ∧ tg670 (pg) = 10 := Ex_o hx673 ⟨ho660.1, ho660.2⟩
    have ho709 : own m670 (r564) ∧ tg670 (r564) = 8 := Ex_o hx673 ⟨ho661.1, ho661.2⟩
    have hX710 := Ex_t hX662 hx673
    have c711 : NM m m670 tg670 := NM_t c663 hx673 c690
    refine Or.inr (Or.inl ⟨_, rfl, ?_⟩)
    refine cx_po (pc_q := 229) (c := 7) (q := 7) (qi := (7 : Int)) (z := r672) rfl rfl (by decide) (by decide) rfl rfl rfl (by decide) rfl ho706.1 ho706.2 rfl ?_
    obtain ⟨F712, eF712⟩ : ∃ q, q = uF F671 (p) (7 : Int) (r672) := ⟨_, rfl⟩
    rw [← eF712]
    have hC713 : HC 0 m670 tg670 ln670 F712 := by rw [eF712]; exact HC_fr (c := 7) (q := 7) (by decide) hC674 ho706.2 (by decide) rfl (Or.inr ⟨b676.1, b676.2⟩) ⟨fun w => absurd w (by decide), fun w => absurd w (by decide)⟩
    have hM714 : Fq p [(7, 15), (9, 2), (9, 3), (10, 0), (10, 1), (10, 2), (10, 8), (10, 9), (11, 8), (11, 12), (11, 13), (11, 14), (11, 15), (11, 16), (11, 17), (11, 18)] m tg F F712 := by rw [eF712]; exact Fq_x hM701 (Or.inl rfl)
    have c715 : NP m670 tg670 F712 := by rw [eF712]; exact NP_un hC674 c689 ho706.1 ho706.2 (by rw [show F671 (p) (103 : Int) = F (p) (103 : Int) from ((show F671 (p) (103 : Int) = F629 (p) (103 : Int) from hM675 _ _ ho658.1 (own_z ho658.1) (by rw [ho658.2]; rfl)).trans ((show F629 (p) (103 : Int) = F615 (p) (103 : Int) from hM632 _ _ ho597.1 (own_z ho597.1) (by rw [ho597.2]; rfl)).trans ((show F615 (p) (103 : Int) = F611 (p) (103 : Int) from by rw [eF615]; exact uF_j (by decide)).trans ((show F611 (p) (103 : Int) = F608 (p) (103 : Int) from by rw [eF611]; exact uF_a (by omega)).trans ((show F608 (p) (103 : Int) = F563 (p) (103 : Int) from by rw [eF608]; exact uF_j (by decide)).trans ((show F563 (p) (103 : Int) = F547 (p) (103 : Int) from hM567 _ _ o_p (own_z o_p) (by rw [t_p]; rfl)).trans ((show F547 (p) (103 : Int) = F539 (p) (103 : Int) from by rw [eF547]; exact uF_j (by decide)).trans (show F539 (p) (103 : Int) = F (p) (103 : Int) from hM541 _ _ o_p (own_z o_p) (by rw [t_p]; rfl)))))))))]; omega) (by decide) (Or.inl (by decide))
    refine jx_go (tg := 245) rfl rfl ?_
    refine jx_rt (v := none) rfl rfl rfl rfl rfl rfl ?_
    have q716 : F712 (sc) (7 : Int) = F (sc) (7 : Int) := ((show F712 (sc) (7 : Int) = F671 (sc) (7 : Int) from by rw [eF712]; exact uF_a (fun w => by have q1 := ho707.2; have q2 := ho706.2; rw [w, q2] at q1; exact absurd q1 (by decide))).trans ((show F671 (sc) (7 : Int) = F629 (sc) (7 : Int) from hM675 _ _ ho659.1 (own_z ho659.1) (by rw [ho659.2]; rfl)).trans q665))
    have q717 : F712 (sc) (8 : Int) = F671 (sc) (8 : Int) := (show F712 (sc) (8 : Int) = F671 (sc) (8 : Int) from by rw [eF712]; exact uF_j (by decide))
    have q718 : F712 (pg) (9 : Int) = F671 (pg) (9 : Int) := (show F712 (pg) (9 : Int) = F671 (pg) (9 : Int) from by rw [eF712]; exact uF_j (by decide))
    have q719 : F712 (sc) (8 : Int) = F671 (sc) (8 : Int) := q717
    have q720 : F712 (sc) (15 : Int) = F671 (sc) (15 : Int) := (show F712 (sc) (15 : Int) = F671 (sc) (15 : Int) from by rw [eF712]; exact uF_j (by decide))
    have q721 : tz (F712 (sc) (15 : Int)) = tz (F671 (sc) (15 : Int)) := by rw [q720]
    have q722 := tz_b (F671 (sc) (15 : Int))
    have q723 : F712 (sc) (14 : Int) = F671 (sc) (14 : Int) := (show F712 (sc) (14 : Int) = F671 (sc) (14 : Int) from by rw [eF712]; exact uF_j (by decide))
    have q724 : lz (F712 (sc) (14 : Int)) = lz (F671 (sc) (14 : Int)) := by rw [q723]
    have q725 := lz_b (F671 (sc) (14 : Int))
    have q726 : F712 (pg) (9 : Int) = F671 (pg) (9 : Int) := q718
    exact Or.inl ⟨m670, tg670, ln670, F712, rfl, rfl, hX710, hC713, hM714, by omega, by omega, by omega, by omega, by omega, by omega, (WK_i (K := 60 - 2 * lv) (by rw [show F712 (p) (103 : Int) = F (p) (103 : Int) from ((show F712 (p) (103 : Int) = F671 (p) (103 : Int) from by rw [eF712]; exact uF_j (by decide)).trans ((show F671 (p) (103 : Int) = F629 (p) (103 : Int) from hM675 _ _ ho658.1 (own_z ho658.1) (by rw [ho658.2]; rfl)).trans ((show F629 (p) (103 : Int) = F615 (p) (103 : Int) from hM632 _ _ ho597.1 (own_z ho597.1) (by rw [ho597.2]; rfl)).trans ((show F615 (p) (103 : Int) = F611 (p) (103 : Int) from by rw [eF615]; exact uF_j (by decide)).trans ((show F611 (p) (103 : Int) = F608 (p) (103 : Int) from by rw [eF611]; exact uF_a (by omega)).trans ((show F608 (p) (103 : Int) = F563 (p) (103 : Int) from by rw [eF608]; exact uF_j (by decide)).trans ((show F563 (p) (103 : Int) = F547 (p) (103 : Int) from hM567 _ _ o_p (own_z o_p) (by rw [t_p]; rfl)).trans ((show F547 (p) (103 : Int) = F539 (p) (103 : Int) from by rw [eF547]; exact uF_j (by decide)).trans (show F539 (p) (103 : Int) = F (p) (103 : Int) from hM541 _ _ o_p (own_z o_p) (by rw [t_p]; rfl))))))))))]; omega) (by rw [show F712 (p) (101 : Int) = F (p) (101 : Int) from ((show F712 (p) (101 : Int) = F671 (p) (101 : Int) from by rw [eF712]; exact uF_j (by decide)).trans ((show F671 (p) (101 : Int) = F629 (p) (101 : Int) from hM675 _ _ ho658.1 (own_z ho658.1) (by rw [ho658.2]; rfl)).trans ((show F629 (p) (101 : Int) = F615 (p) (101 : Int) from hM632 _ _ ho597.1 (own_z ho597.1) (by rw [ho597.2]; rfl)).trans ((show F615 (p) (101 : Int) = F611 (p) (101 : Int) from by rw [eF615]; exact uF_j (by decide)).trans ((show F611 (p) (101 : Int) = F608 (p) (101 : Int) from by rw [eF611]; exact uF_j (by decide)).trans ((show F608 (p) (101 : Int) = F563 (p) (101 : Int) from by rw [eF608]; exact uF_j (by decide)).trans ((show F563 (p) (101 : Int) = F547 (p) (101 : Int) from hM567 _ _ o_p (own_z o_p) (by rw [t_p]; rfl)).trans ((show F547 (p) (101 : Int) = F539 (p) (101 : Int) from by rw [eF547]; exact uF_j (by decide)).trans (show F539 (p) (101 : Int) = F (p) (101 : Int) from hM541 _ _ o_p (own_z o_p) (by rw [t_p]; rfl))))))))))]; omega) (by rw [show F712 (p) (8 : Int) = F (p) (8 : Int) from ((show F712 (p) (8 : Int) = F671 (p) (8 : Int) from by rw [eF712]; exact uF_j (by decide)).trans ((show F671 (p) (8 : Int) = F629 (p) (8 : Int) from hM675 _ _ ho658.1 (own_z ho658.1) (by rw [ho658.2]; rfl)).trans ((show F629 (p) (8 : Int) = F615 (p) (8 : Int) from hM632 _ _ ho597.1 (own_z ho597.1) (by rw [ho597.2]; rfl)).trans ((show F615 (p) (8 : Int) = F611 (p) (8 : Int) from by rw [eF615]; exact uF_j (by decide)).trans ((show F611 (p) (8 : Int) = F608 (p) (8 : Int) from by rw [eF611]; exact uF_j (by decide)).trans ((show F608 (p) (8 : Int) = F563 (p) (8 : Int) from by rw [eF608]; exact uF_j (by decide)).trans ((show F563 (p) (8 : Int) = F547 (p) (8 : Int) from hM567 _ _ o_p (own_z o_p) (by rw [t_p]; rfl)).trans ((show F547 (p) (8 : Int) = F539 (p) (8 : Int) from by rw [eF547]; exact uF_j (by decide)).trans (show F539 (p) (8 : Int) = F (p) (8 : Int) from hM541 _ _ o_p (own_z o_p) (by rw [t_p]; rfl))))))))))]; omega) (Or.inr (by rw [show F712 (p) (4 : Int) = r564 from ((show F712 (p) (4 : Int) = F671 (p) (4 : Int) from by rw [eF712]; exact uF_j (by decide)).trans ((show F671 (p) (4 : Int) = F629 (p) (4 : Int) from hM675 _ _ ho658.1 (own_z ho658.1) (by rw [ho658.2]; rfl)).trans ((show F629 (p) (4 : Int) = F615 (p) (4 : Int) from hM632 _ _ ho597.1 (own_z ho597.1) (by rw [ho597.2]; rfl)).trans (show F615 (p) (4 : Int) = r564 from by rw [eF615]; exact uF_e))))]; exact ⟨((show F712 (r564) (103 : Int) = F671 (r564) (103 : Int) from by rw [eF712]; exact uF_j (by decide)).trans ((show F671 (r564) (103 : Int) = F629 (r564) (103 : Int) from hM675 _ _ ho661.1 (own_z ho661.1) (by rw [ho661.2]; rfl)).trans ((show F629 (r564) (103 : Int) = F615 (r564) (103 : Int) from hM632 _ _ b568.1 (own_z b568.1) (by rw [b568.2]; rfl)).trans ((show F615 (r564) (103 : Int) = F611 (r564) (103 : Int) from by rw [eF615]; exact uF_j (by decide)).trans (show F611 (r564) (103 : Int) = 1 from by rw [eF611]; exact uF_e))))), (by rw [show F712 (r564) (100 : Int) = 20 from ((show F712 (r564) (100 : Int) = F671 (r564) (100 : Int) from by rw [eF712]; exact uF_j (by decide)).trans ((show F671 (r564) (100 : Int) = F629 (r564) (100 : Int) from hM675 _ _ ho661.1 (own_z ho661.1) (by rw [ho661.2]; rfl)).trans ((show F629 (r564) (100 : Int) = F615 (r564) (100 : Int) from hM632 _ _ b568.1 (own_z b568.1) (by rw [b568.2]; rfl)).trans ((show F615 (r564) (100 : Int) = F611 (r564) (100 : Int) from by rw [eF615]; exact uF_j (by decide)).trans ((show F611 (r564) (100 : Int) = F608 (r564) (100 : Int) from by rw [eF611]; exact uF_j (by decide)).trans (show F608 (r564) (100 : Int) = 20 from by rw [eF608]; exact uF_e))))))]; omega), (by rw [show F712 (r564) (100 : Int) = 20 from ((show F712 (r564) (100 : Int) = F671 (r564) (100 : Int) from by rw [eF712]; exact uF_j (by decide)).trans ((show F671 (r564) (100 : Int) = F629 (r564) (100 : Int) from hM675 _ _ ho661.1 (own_z ho661.1) (by rw [ho661.2]; rfl)).trans ((show F629 (r564) (100 : Int) = F615 (r564) (100 : Int) from hM632 _ _ b568.1 (own_z b568.1) (by rw [b568.2]; rfl)).trans ((show F615 (r564) (100 : Int) = F611 (r564) (100 : Int) from by rw [eF615]; exact uF_j (by decide)).trans ((show F611 (r564) (100 : Int) = F608 (r564) (100 : Int) from by rw [eF611]; exact uF_j (by decide)).trans (show F608 (r564) (100 : Int) = 20 from by rw [eF608]; exact uF_e))))))]; omega)⟩)) (Or.inl (by rw [show F712 (p) (5 : Int) = F (p) (5 : Int) from ((show F712 (p) (5 : Int) = F671 (p) (5 : Int) from by rw [eF712]; exact uF_j (by decide)).trans ((show F671 (p) (5 : Int) = F629 (p) (5 : Int) from hM675 _ _ ho658.1 (own_z ho658.1) (by rw [ho658.2]; rfl)).trans ((show F629 (p) (5 : Int) = F615 (p) (5 : Int) from hM632 _ _ ho597.1 (own_z ho597.1) (by rw [ho597.2]; rfl)).trans ((show F615 (p) (5 : Int) = F611 (p) (5 : Int) from by rw [eF615]; exact uF_j (by decide)).trans ((show F611 (p) (5 : Int) = F608 (p) (5 : Int) from by rw [eF611]; exact uF_j (by decide)).trans ((show F608 (p) (5 : Int) = F563 (p) (5 : Int) from by rw [eF608]; exact uF_j (by decide)).trans ((show F563 (p) (5 : Int) = F547 (p) (5 : Int) from hM567 _ _ o_p (own_z o_p) (by rw [t_p]; rfl)).trans ((show F547 (p) (5 : Int) = F539 (p) (5 : Int) from by rw [eF547]; exact uF_j (by decide)).trans (show F539 (p) (5 : Int) = F (p) (5 : Int) from hM541 _ _ o_p (own_z o_p) (by rw [t_p]; rfl))))))))))]; omega)) (Or.inl (by rw [show F712 (p) (6 : Int) = F (p) (6 : Int) from ((show F712 (p) (6 : Int) = F671 (p) (6 : Int) from by rw [eF712]; exact uF_j (by decide)).trans ((show F671 (p) (6 : Int) = F629 (p) (6 : Int) from hM675 _ _ ho658.1 (own_z ho658.1) (by rw [ho658.2]; rfl)).trans ((show F629 (p) (6 : Int) = F615 (p) (6 : Int) from hM632 _ _ ho597.1 (own_z ho597.1) (by rw [ho597.2]; rfl)).trans ((show F615 (p) (6 : Int) = F611 (p) (6 : Int) from by rw [eF615]; exact uF_j (by decide)).trans ((show F611 (p) (6 : Int) = F608 (p) (6 : Int) from by rw [eF611]; exact uF_j (by decide)).trans ((show F608 (p) (6 : Int) = F563 (p) (6 : Int) from by rw [eF608]; exact uF_j (by decide)).trans ((show F563 (p) (6 : Int) = F547 (p) (6 : Int) from hM567 _ _ o_p (own_z o_p) (by rw [t_p]; rfl)).trans ((show F547 (p) (6 : Int) = F539 (p) (6 : Int) from by rw [eF547]; exact uF_j (by decide)).trans (show F539 (p) (6 : Int) = F (p) (6 : Int) from hM541 _ _ o_p (own_z o_p) (by rw [t_p]; rfl))))))))))]; omega)) (Or.inr (by rw [show F712 (p) (7 : Int) = r672 from (show F712 (p) (7 : Int) = r672 from by rw [eF712]; exact uF_e)]; exact ⟨(by rw [show F712 (r672) (103 : Int) = F671 (r672) (103 : Int) from (show F712 (r672) (103 : Int) = F671 (r672) (103 : Int) from by rw [eF712]; exact uF_j (by decide))]; omega), (by rw [show F712 (r672) (100 : Int) = F671 (r672) (100 : Int) from (show F712 (r672) (100 : Int) = F671 (r672) (100 : Int) from by rw [eF712]; exact uF_j (by decide))]; omega), (by rw [show F712 (r672) (100 : Int) = F671 (r672) (100 : Int) from (show F712 (r672) (100 : Int) = F671 (r672) (100 : Int) from by rw [eF712]; exact uF_j (by decide))]; omega)⟩)) (Or.inl (by rw [show F712 (p) (0 : Int) = 12 from ((show F712 (p) (0 : Int) = F671 (p) (0 : Int) from by rw [eF712]; exact uF_j (by decide)).trans ((show F671 (p) (0 : Int) = F629 (p) (0 : Int) from hM675 _ _ ho658.1 (own_z ho658.1) (by rw [ho658.2]; rfl)).trans ((show F629 (p) (0 : Int) = F615 (p) (0 : Int) from hM632 _ _ ho597.1 (own_z ho597.1) (by rw [ho597.2]; rfl)).trans ((show F615 (p) (0 : Int) = F611 (p) (0 : Int) from by rw [eF615]; exact uF_j (by decide)).trans ((show F611 (p) (0 : Int) = F608 (p) (0 : Int) from by rw [eF611]; exact uF_j (by decide)).trans ((show F608 (p) (0 : Int) = F563 (p) (0 : Int) from by rw [eF608]; exact uF_j (by decide)).trans ((show F563 (p) (0 : Int) = F547 (p) (0 : Int) from hM567 _ _ o_p (own_z o_p) (by rw [t_p]; rfl)).trans (show F547 (p) (0 : Int) = 12 from by rw [eF547]; exact uF_e))))))))]; omega))), c715, c711, trivial⟩
  by_cases h727 : F (sc) (15 : Int) = 16
  · refine jx_swe (tg := 84) h727 rfl rfl rfl rfl ?_
    have t728 : tz (F (sc) (15 : Int)) = 1 := tz_p (by omega)
    refine jx_ld (pc_q := 85) (l_q := L0) (st_q := [rv (p)]) rfl (jl_rvn g2) ?_
    refine jx_ld (pc_q := 86) (l_q := L0) (st_q := [rv (me), rv (p)]) rfl (jl_rvn g1) ?_
    refine cx_gr (pc_q := 89) (c := 8) (q := 1) (v := sc) rfl rfl (by decide) (by decide) rfl rfl o_me t_me e_sc ?_
    refine cx_gi (pc_q := 92) (c := 10) (q := 15) (v := F (sc) (15 : Int)) rfl rfl (by decide) (by decide) (Or.inl rfl) rfl o_sc t_sc rfl ?_
    refine jx_ar (pc_q := 94) (st_q := [.int (i32 (16)), .int (i32 (F (sc) (15 : Int))), rv (p)]) rfl rfl rfl rfl ?_
    refine jx_icmp_ne (pc_q := 97) (tg := 101) rfl rfl rfl (by omega) (by omega) (by decide) (by decide) (fun h729 => ?_) (fun h729 => ?_)
    · have _q := h729
      refine jx_ar (pc_q := 102) (st_q := [.int (i32 (1)), rv (p)]) rfl rfl rfl rfl ?_
      refine cx_pi (pc_q := 105) (c := 7) (q := 0) (qi := (0 : Int)) (z := 1) rfl rfl (by decide) (by decide) rfl rfl rfl (by decide) rfl o_p t_p rfl ?_
      obtain ⟨F730, eF730⟩ : ∃ q, q = uF F (p) (0 : Int) (1) := ⟨_, rfl⟩
      rw [← eF730]
      have hC731 : HC 0 m tg ln F730 := by rw [eF730]; exact HC_fi (c := 7) (q := 0) hC t_p (by decide) rfl (by omega) (by omega) ⟨fun w => absurd w (by decide), fun w => absurd w (by decide)⟩
      have hM732 : Fq p [(7, 15), (9, 2), (9, 3), (10, 0), (10, 1), (10, 2), (10, 8), (10, 9), (11, 8), (11, 12), (11, 13), (11, 14), (11, 15), (11, 16), (11, 17), (11, 18)] m tg F F730 := by rw [eF730]; exact Fq_x hM0 (Or.inl rfl)
      have c733 : NP m tg F730 := by rw [eF730]; exact NP_un hC c_NP o_p t_p (by omega) (by decide) (Or.inl (by decide))
      refine jx_ld (pc_q := 106) (l_q := L0) (st_q := [rv (me)]) rfl (jl_rvn g1) ?_
      refine cx_gr (pc_q := 109) (c := 8) (q := 1) (v := sc) rfl rfl (by decide) (by decide) rfl rfl o_me t_me ((show F730 (me) (1 : Int) = F (me) (1 : Int) from by rw [eF730]; exact uF_j (by decide)).trans e_sc) ?_
      have q734 : F730 (sc) (8 : Int) = F (sc) (8 : Int) := (show F730 (sc) (8 : Int) = F (sc) (8 : Int) from by rw [eF730]; exact uF_j (by decide))
      have q735 : F730 (sc) (15 : Int) = F (sc) (15 : Int) := (show F730 (sc) (15 : Int) = F (sc) (15 : Int) from by rw [eF730]; exact uF_j (by decide))
      have q736 : tz (F730 (sc) (15 : Int)) = tz (F (sc) (15 : Int)) := by rw [q735]
      have q737 := tz_b (F (sc) (15 : Int))
      have q738 : F730 (sc) (7 : Int) = F (sc) (7 : Int) := (show F730 (sc) (7 : Int) = F (sc) (7 : Int) from by rw [eF730]; exact uF_j (by decide))
      have q739 : F730 (sc) (14 : Int) = F (sc) (14 : Int) := (show F730 (sc) (14 : Int) = F (sc) (14 : Int) from by rw [eF730]; exact uF_j (by decide))
      have q740 : lz (F730 (sc) (14 : Int)) = lz (F (sc) (14 : Int)) := by rw [q739]
      have q741 := lz_b (F (sc) (14 : Int))
      refine cx_vi (c := 10) (a := sc) (st := []) (as := []) rfl rfl rfl o_sc t_sc (by decide) rfl ⟨rfl, rfl, (Nat.le_of_ble_eq_true rfl)⟩ rfl (k_LScanner_next (dd := d) (R := R) (m := m) (tg := tg) (ln := ln) (F := F730) (me := sc) (hd := by omega) (hC := hC731) (o_me := o_sc) (t_me := t_sc) (p_0 := by omega) (p_1 := by omega)) (fun o V_q hq => ?_)
      obtain ⟨F742, rfl, rfl, hC743, hM744, p745, p746, p747, -⟩ := hq
      have hM748 : Fq p [(7, 15), (9, 2), (9, 3), (10, 0), (10, 1), (10, 2), (10, 8), (10, 9), (11, 8), (11, 12), (11, 13), (11, 14), (11, 15), (11, 16), (11, 17), (11, 18)] m tg F F742 := Fq_t (ln := ln) (ln1 := ln) hM732 hX0 hM744 (by decide) (Or.inr (Or.inl rfl))
      have c749 : NP m tg F742 := NP_q hC731 c733 hM744 rfl rfl
      refine Or.inl ⟨rfl, ?_⟩
      refine jx_ld (pc_q := 113) (l_q := L0) (st_q := [rv (me)]) rfl (jl_rvn g1) ?_
      have q750 := tz_b (F742 (sc) (15 : Int))
      have q751 : F742 (sc) (7 : Int) = F (sc) (7 : Int) := ((show F742 (sc) (7 : Int) = F730 (sc) (7 : Int) from hM744 _ _ o_sc (own_z o_sc) (by rw [t_sc]; rfl)).trans q738)
      have q752 := lz_b (F742 (sc) (14 : Int))
      have q753 : F742 (pg) (9 : Int) = F (pg) (9 : Int) := ((show F742 (pg) (9 : Int) = F730 (pg) (9 : Int) from hM744 _ _ o_pg (own_z o_pg) (by rw [t_pg]; rfl)).trans (show F730 (pg) (9 : Int) = F (pg) (9 : Int) from by rw [eF730]; exact uF_j (by decide)))
      refine cx_vi (c := 8) (a := me) (st := []) (as := []) rfl rfl rfl o_me t_me (by decide) rfl ⟨rfl, rfl, (Nat.le_of_ble_eq_true rfl)⟩ rfl (k_LParser_endLine (dd := d) (R := R) (m := m) (tg := tg) (ln := ln) (F := F742) (me := me) (hd := by omega) (hC := hC743) (o_me := o_me) (t_me := t_me) (sc := sc) (pg := pg) (o_sc := o_sc) (t_sc := t_sc) (e_sc := (((show F742 (me) (1 : Int) = F730 (me) (1 : Int) from hM744 _ _ o_me (own_z o_me) (by rw [t_me]; rfl)).trans (show F730 (me) (1 : Int) = F (me) (1 : Int) from by rw [eF730]; exact uF_j (by decide))).trans e_sc)) (o_pg := o_pg) (t_pg := t_pg) (e_pg := (((show F742 (me) (0 : Int) = F730 (me) (0 : Int) from hM744 _ _ o_me (own_z o_me) (by rw [t_me]; rfl)).trans (show F730 (me) (0 : Int) = F (me) (0 : Int) from by rw [eF730]; exact uF_a (fun w => by have q1 := t_me; have q2 := t_p; rw [w, q2] at q1; exact absurd q1 (by decide)))).trans e_pg)) (p_0 := by omega) (p_1 := by omega) (p_2 := by omega) (c_NP := c749)) (fun o V_q hq => ?_)
      obtain ⟨m754, tg754, ln754, F755, rfl, rfl, hx756, hC757, hM758, p759, p760, p761, p762, p763, p764, p765, c766, c767, -⟩ | ⟨m768, tg768, ln768, F768, x768, rfl, rfl, hx768, hC768, hM768, ho768, ht768, p769, p770, p771, p772, c773, c774, -⟩ := hq
      rotate_left
      ·
        have c775 : NM m m768 tg768 := NM_t NM_0 hx768 c774
        have lm776 := hx768.1
        refine Or.inr (Or.inr (Or.inr ⟨_, _, rfl, cx_exc (c := 15) ho768 ht768 (by decide), rfl, ?_⟩))
        have q777 : F742 (sc) (7 : Int) = F (sc) (7 : Int) := q751
        exact Or.inr ⟨m768, tg768, ln768, F768, x768, rfl, rfl, Ex_t hX0 hx768, hC768, Fq_t (ln := ln) (ln1 := ln) hM748 hX0 hM768 (by decide) (Or.inr (Or.inl rfl)), (And.intro ho768 ht768).1, (And.intro ho768 ht768).2, by omega, by omega, by omega, by omega, c773, c775, trivial⟩
      have hM778 : Fq p [(7, 15), (9, 2), (9, 3), (10, 0), (10, 1), (10, 2), (10, 8), (10, 9), (11, 8), (11, 12), (11, 13), (11, 14), (11, 15), (11, 16), (11, 17), (11, 18)] m tg F F755 := Fq_t (ln := ln) (ln1 := ln) hM748 hX0 hM758 (by decide) (Or.inr (Or.inl rfl))
      have lm779 := hx756.1
      have lt780 : p < 64 + (m : Int) := o_p.2.1
      have ho781 : own m754 (me) ∧ tg754 (me) = 9 := Ex_o hx756 ⟨o_me, t_me⟩
      have ho782 : own m754 (p) ∧ tg754 (p) = 8 := Ex_o hx756 ⟨o_p, t_p⟩
      have ho783 : own m754 (sc) ∧ tg754 (sc) = 11 := Ex_o hx756 ⟨o_sc, t_sc⟩
      have ho784 : own m754 (pg) ∧ tg754 (pg) = 10 := Ex_o hx756 ⟨o_pg, t_pg⟩
      have hX785 := Ex_t hX0 hx756
      have c786 : NM m m754 tg754 := NM_t NM_0 hx756 c767
      refine Or.inl ⟨rfl, ?_⟩
      refine jx_go (tg := 245) rfl rfl ?_
      refine jx_rt (v := none) rfl rfl rfl rfl rfl rfl ?_
      have q787 : F755 (sc) (7 : Int) = F (sc) (7 : Int) := ((show F755 (sc) (7 : Int) = F742 (sc) (7 : Int) from hM758 _ _ o_sc (own_z o_sc) (by rw [t_sc]; rfl)).trans q751)
      have q788 : F755 (pg) (9 : Int) = F (pg) (9 : Int) := ((show F755 (pg) (9 : Int) = F742 (pg) (9 : Int) from hM758 _ _ o_pg (own_z o_pg) (by rw [t_pg]; rfl)).trans q753)
      have q789 := tz_b (F755 (sc) (15 : Int))
      have q790 := lz_b (F755 (sc) (14 : Int))
      have q791 : F755 (pg) (9 : Int) = F (pg) (9 : Int) := q788
      exact Or.inl ⟨m754, tg754, ln754, F755, rfl, rfl, hX785, hC757, hM778, by omega, by omega, by omega, by omega, by omega, by omega, (WK_i (K := 60 - 2 * lv) (by rw [show F755 (p) (103 : Int) = F (p) (103 : Int) from ((show F755 (p) (103 : Int) = F742 (p) (103 : Int) from hM758 _ _ o_p (own_z o_p) (by rw [t_p]; rfl)).trans ((show F742 (p) (103 : Int) = F730 (p) (103 : Int) from hM744 _ _ o_p (own_z o_p) (by rw [t_p]; rfl)).trans (show F730 (p) (103 : Int) = F (p) (103 : Int) from by rw [eF730]; exact uF_j (by decide))))]; omega) (by rw [show F755 (p) (101 : Int) = F (p) (101 : Int) from ((show F755 (p) (101 : Int) = F742 (p) (101 : Int) from hM758 _ _ o_p (own_z o_p) (by rw [t_p]; rfl)).trans ((show F742 (p) (101 : Int) = F730 (p) (101 : Int) from hM744 _ _ o_p (own_z o_p) (by rw [t_p]; rfl)).trans (show F730 (p) (101 : Int) = F (p) (101 : Int) from by rw [eF730]; exact uF_j (by decide))))]; omega) (by rw [show F755 (p) (8 : Int) = F (p) (8 : Int) from ((show F755 (p) (8 : Int) = F742 (p) (8 : Int) from hM758 _ _ o_p (own_z o_p) (by rw [t_p]; rfl)).trans ((show F742 (p) (8 : Int) = F730 (p) (8 : Int) from hM744 _ _ o_p (own_z o_p) (by rw [t_p]; rfl)).trans (show F730 (p) (8 : Int) = F (p) (8 : Int) from by rw [eF730]; exact uF_j (by decide))))]; omega) (Or.inl (by rw [show F755 (p) (4 : Int) = F (p) (4 : Int) from ((show F755 (p) (4 : Int) = F742 (p) (4 : Int) from hM758 _ _ o_p (own_z o_p) (by rw [t_p]; rfl)).trans ((show F742 (p) (4 : Int) = F730 (p) (4 : Int) from hM744 _ _ o_p (own_z o_p) (by rw [t_p]; rfl)).trans (show F730 (p) (4 : Int) = F (p) (4 : Int) from by rw [eF730]; exact uF_j (by decide))))]; omega)) (Or.inl (by rw [show F755 (p) (5 : Int) = F (p) (5 : Int) from ((show F755 (p) (5 : Int) = F742 (p) (5 : Int) from hM758 _ _ o_p (own_z o_p) (by rw [t_p]; rfl)).trans ((show F742 (p) (5 : Int) = F730 (p) (5 : Int) from hM744 _ _ o_p (own_z o_p) (by rw [t_p]; rfl)).trans (show F730 (p) (5 : Int) = F (p) (5 : Int) from by rw [eF730]; exact uF_j (by decide))))]; omega)) (Or.inl (by rw [show F755 (p) (6 : Int) = F (p) (6 : Int) from ((show F755 (p) (6 : Int) = F742 (p) (6 : Int) from hM758 _ _ o_p (own_z o_p) (by rw [t_p]; rfl)).trans ((show F742 (p) (6 : Int) = F730 (p) (6 : Int) from hM744 _ _ o_p (own_z o_p) (by rw [t_p]; rfl)).trans (show F730 (p) (6 : Int) = F (p) (6 : Int) from by rw [eF730]; exact uF_j (by decide))))]; omega)) (Or.inl (by rw [show F755 (p) (7 : Int) = F (p) (7 : Int) from ((show F755 (p) (7 : Int) = F742 (p) (7 : Int) from hM758 _ _ o_p (own_z o_p) (by rw [t_p]; rfl)).trans ((show F742 (p) (7 : Int) = F730 (p) (7 : Int) from hM744 _ _ o_p (own_z o_p) (by rw [t_p]; rfl)).trans (show F730 (p) (7 : Int) = F (p) (7 : Int) from by rw [eF730]; exact uF_j (by decide))))]; omega)) (Or.inl (by rw [show F755 (p) (0 : Int) = 1 from ((show F755 (p) (0 : Int) = F742 (p) (0 : Int) from hM758 _ _ o_p (own_z o_p) (by rw [t_p]; rfl)).trans ((show F742 (p) (0 : Int) = F730 (p) (0 : Int) from hM744 _ _ o_p (own_z o_p) (by rw [t_p]; rfl)).trans (show F730 (p) (0 : Int) = 1 from by rw [eF730]; exact uF_e)))]; omega))), c766, c786, trivial⟩
    · have _q := h729
      have t792 : tz (F (sc) (15 : Int)) = 1 := tz_p (by omega)
      refine jx_ar (pc_q := 98) (st_q := [.int (i32 (0)), rv (p)]) rfl rfl rfl rfl ?_
      refine jx_go (tg := 102) rfl rfl ?_
      refine cx_pi (pc_q := 105) (c := 7) (q := 0) (qi := (0 : Int)) (z := 0) rfl rfl (by decide) (by decide) rfl rfl rfl (by decide) rfl o_p t_p rfl ?_
      obtain ⟨F793, eF793⟩ : ∃ q, q = uF F (p) (0 : Int) (0) := ⟨_, rfl⟩
      rw [← eF793]
      have hC794 : HC 0 m tg ln F793 := by rw [eF793]; exact HC_fi (c := 7) (q := 0) hC t_p (by decide) rfl (by omega) (by omega) ⟨fun w => absurd w (by decide), fun w => absurd w (by decide)⟩
      have hM795 : Fq p [(7, 15), (9, 2), (9, 3), (10, 0), (10, 1), (10, 2), (10, 8), (10, 9), (11, 8), (11, 12), (11, 13), (11, 14), (11, 15), (11, 16), (11, 17), (11, 18)] m tg F F793 := by rw [eF793]; exact Fq_x hM0 (Or.inl rfl)
      have c796 : NP m tg F793 := by rw [eF793]; exact NP_un hC c_NP o_p t_p (by omega) (by decide) (Or.inl (by decide))
      refine jx_ld (pc_q := 106) (l_q := L0) (st_q := [rv (me)]) rfl (jl_rvn g1) ?_
      refine cx_gr (pc_q := 109) (c := 8) (q := 1) (v := sc) rfl rfl (by decide) (by decide) rfl rfl o_me t_me ((show F793 (me) (1 : Int) = F (me) (1 : Int) from by rw [eF793]; exact uF_j (by decide)).trans e_sc) ?_
      have q797 : F793 (sc) (8 : Int) = F (sc) (8 : Int) := (show F793 (sc) (8 : Int) = F (sc) (8 : Int) from by rw [eF793]; exact uF_j (by decide))
      have q798 : F793 (sc) (15 : Int) = F (sc) (15 : Int) := (show F793 (sc) (15 : Int) = F (sc) (15 : Int) from by rw [eF793]; exact uF_j (by decide))
      have q799 : tz (F793 (sc) (15 : Int)) = tz (F (sc) (15 : Int)) := by rw [q798]
      have q800 := tz_b (F (sc) (15 : Int))
      have q801 : F793 (sc) (7 : Int) = F (sc) (7 : Int) := (show F793 (sc) (7 : Int) = F (sc) (7 : Int) from by rw [eF793]; exact uF_j (by decide))
      have q802 : F793 (sc) (14 : Int) = F (sc) (14 : Int) := (show F793 (sc) (14 : Int) = F (sc) (14 : Int) from by rw [eF793]; exact uF_j (by decide))
      have q803 : lz (F793 (sc) (14 : Int)) = lz (F (sc) (14 : Int)) := by rw [q802]
      have q804 := lz_b (F (sc) (14 : Int))
      refine cx_vi (c := 10) (a := sc) (st := []) (as := []) rfl rfl rfl o_sc t_sc (by decide) rfl ⟨rfl, rfl, (Nat.le_of_ble_eq_true rfl)⟩ rfl (k_LScanner_next (dd := d) (R := R) (m := m) (tg := tg) (ln := ln) (F := F793) (me := sc) (hd := by omega) (hC := hC794) (o_me := o_sc) (t_me := t_sc) (p_0 := by omega) (p_1 := by omega)) (fun o V_q hq => ?_)
      obtain ⟨F805, rfl, rfl, hC806, hM807, p808, p809, p810, -⟩ := hq
      have hM811 : Fq p [(7, 15), (9, 2), (9, 3), (10, 0), (10, 1), (10, 2), (10, 8), (10, 9), (11, 8), (11, 12), (11, 13), (11, 14), (11, 15), (11, 16), (11, 17), (11, 18)] m tg F F805 := Fq_t (ln := ln) (ln1 := ln) hM795 hX0 hM807 (by decide) (Or.inr (Or.inl rfl))
      have c812 : NP m tg F805 := NP_q hC794 c796 hM807 rfl rfl
      refine Or.inl ⟨rfl, ?_⟩
      refine jx_ld (pc_q := 113) (l_q := L0) (st_q := [rv (me)]) rfl (jl_rvn g1) ?_
      have q813 := tz_b (F805 (sc) (15 : Int))
      have q814 : F805 (sc) (7 : Int) = F (sc) (7 : Int) := ((show F805 (sc) (7 : Int) = F793 (sc) (7 : Int) from hM807 _ _ o_sc (own_z o_sc) (by rw [t_sc]; rfl)).trans q801)
      have q815 := lz_b (F805 (sc) (14 : Int))
      have q816 : F805 (pg) (9 : Int) = F (pg) (9 : Int) := ((show F805 (pg) (9 : Int) = F793 (pg) (9 : Int) from hM807 _ _ o_pg (own_z o_pg) (by rw [t_pg]; rfl)).trans (show F793 (pg) (9 : Int) = F (pg) (9 : Int) from by rw [eF793]; exact uF_j (by decide)))
      refine cx_vi (c := 8) (a := me) (st := []) (as := []) rfl rfl rfl o_me t_me (by decide) rfl ⟨rfl, rfl, (Nat.le_of_ble_eq_true rfl)⟩ rfl (k_LParser_endLine (dd := d) (R := R) (m := m) (tg := tg) (ln := ln) (F := F805) (me := me) (hd := by omega) (hC := hC806) (o_me := o_me) (t_me := t_me) (sc := sc) (pg := pg) (o_sc := o_sc) (t_sc := t_sc) (e_sc := (((show F805 (me) (1 : Int) = F793 (me) (1 : Int) from hM807 _ _ o_me (own_z o_me) (by rw [t_me]; rfl)).trans (show F793 (me) (1 : Int) = F (me) (1 : Int) from by rw [eF793]; exact uF_j (by decide))).trans e_sc)) (o_pg := o_pg) (t_pg := t_pg) (e_pg := (((show F805 (me) (0 : Int) = F793 (me) (0 : Int) from hM807 _ _ o_me (own_z o_me) (by rw [t_me]; rfl)).trans (show F793 (me) (0 : Int) = F (me) (0 : Int) from by rw [eF793]; exact uF_a (fun w => by have q1 := t_me; have q2 := t_p; rw [w, q2] at q1; exact absurd q1 (by decide)))).trans e_pg)) (p_0 := by omega) (p_1 := by omega) (p_2 := by omega) (c_NP := c812)) (fun o V_q hq => ?_)
      obtain ⟨m817, tg817, ln817, F818, rfl, rfl, hx819, hC820, hM821, p822, p823, p824, p825, p826, p827, p828, c829, c830, -⟩ | ⟨m831, tg831, ln831, F831, x831, rfl, rfl, hx831, hC831, hM831, ho831, ht831, p832, p833, p834, p835, c836, c837, -⟩ := hq
      rotate_left
      ·
        have c838 : NM m m831 tg831 := NM_t NM_0 hx831 c837
        have lm839 := hx831.1
        refine Or.inr (Or.inr (Or.inr ⟨_, _, rfl, cx_exc (c := 15) ho831 ht831 (by decide), rfl, ?_⟩))
        have q840 : F805 (sc) (7 : Int) = F (sc) (7 : Int) := q814
        exact Or.inr ⟨m831, tg831, ln831, F831, x831, rfl, rfl, Ex_t hX0 hx831, hC831, Fq_t (ln := ln) (ln1 := ln) hM811 hX0 hM831 (by decide) (Or.inr (Or.inl rfl)), (And.intro ho831 ht831).1, (And.intro ho831 ht831).2, by omega, by omega, by omega, by omega, c836, c838, trivial⟩
      have hM841 : Fq p [(7, 15), (9, 2), (9, 3), (10, 0), (10, 1), (10, 2), (10, 8), (10, 9), (11, 8), (11, 12), (11, 13), (11, 14), (11, 15), (11, 16), (11, 17), (11, 18)] m tg F F818 := Fq_t (ln := ln) (ln1 := ln) hM811 hX0 hM821 (by decide) (Or.inr (Or.inl rfl))
      have lm842 := hx819.1
      have lt843 : p < 64 + (m : Int) := o_p.2.1
      have ho844 : own m817 (me) ∧ tg817 (me) = 9 := Ex_o hx819 ⟨o_me, t_me⟩
      have ho845 : own m817 (p) ∧ tg817 (p) = 8 := Ex_o hx819 ⟨o_p, t_p⟩
      have ho846 : own m817 (sc) ∧ tg817 (sc) = 11 := Ex_o hx819 ⟨o_sc, t_sc⟩
      have ho847 : own m817 (pg) ∧ tg817 (pg) = 10 := Ex_o hx819 ⟨o_pg, t_pg⟩
      have hX848 := Ex_t hX0 hx819
      have c849 : NM m m817 tg817 := NM_t NM_0 hx819 c830
      refine Or.inl ⟨rfl, ?_⟩
      refine jx_go (tg := 245) rfl rfl ?_
      refine jx_rt (v := none) rfl rfl rfl rfl rfl rfl ?_
      have q850 : F818 (sc) (7 : Int) = F (sc) (7 : Int) := ((show F818 (sc) (7 : Int) = F805 (sc) (7 : Int) from hM821 _ _ o_sc (own_z o_sc) (by rw [t_sc]; rfl)).trans q814)
      have q851 : F818 (pg) (9 : Int) = F (pg) (9 : Int) := ((show F818 (pg) (9 : Int) = F805 (pg) (9 : Int) from hM821 _ _ o_pg (own_z o_pg) (by rw [t_pg]; rfl)).trans q816)
      have q852 := tz_b (F818 (sc) (15 : Int))
      have q853 := lz_b (F818 (sc) (14 : Int))
      have q854 : F818 (pg) (9 : Int) = F (pg) (9 : Int) := q851
      exact Or.inl ⟨m817, tg817, ln817, F818, rfl, rfl, hX848, hC820, hM841, by omega, by omega, by omega, by omega, by omega, by omega, (WK_i (K := 60 - 2 * lv) (by rw [show F818 (p) (103 : Int) = F (p) (103 : Int) from ((show F818 (p) (103 : Int) = F805 (p) (103 : Int) from hM821 _ _ o_p (own_z o_p) (by rw [t_p]; rfl)).trans ((show F805 (p) (103 : Int) = F793 (p) (103 : Int) from hM807 _ _ o_p (own_z o_p) (by rw [t_p]; rfl)).trans (show F793 (p) (103 : Int) = F (p) (103 : Int) from by rw [eF793]; exact uF_j (by decide))))]; omega) (by rw [show F818 (p) (101 : Int) = F (p) (101 : Int) from ((show F818 (p) (101 : Int) = F805 (p) (101 : Int) from hM821 _ _ o_p (own_z o_p) (by rw [t_p]; rfl)).trans ((show F805 (p) (101 : Int) = F793 (p) (101 : Int) from hM807 _ _ o_p (own_z o_p) (by rw [t_p]; rfl)).trans (show F793 (p) (101 : Int) = F (p) (101 : Int) from by rw [eF793]; exact uF_j (by decide))))]; omega) (by rw [show F818 (p) (8 : Int) = F (p) (8 : Int) from ((show F818 (p) (8 : Int) = F805 (p) (8 : Int) from hM821 _ _ o_p (own_z o_p) (by rw [t_p]; rfl)).trans ((show F805 (p) (8 : Int) = F793 (p) (8 : Int) from hM807 _ _ o_p (own_z o_p) (by rw [t_p]; rfl)).trans (show F793 (p) (8 : Int) = F (p) (8 : Int) from by rw [eF793]; exact uF_j (by decide))))]; omega) (Or.inl (by rw [show F818 (p) (4 : Int) = F (p) (4 : Int) from ((show F818 (p) (4 : Int) = F805 (p) (4 : Int) from hM821 _ _ o_p (own_z o_p) (by rw [t_p]; rfl)).trans ((show F805 (p) (4 : Int) = F793 (p) (4 : Int) from hM807 _ _ o_p (own_z o_p) (by rw [t_p]; rfl)).trans (show F793 (p) (4 : Int) = F (p) (4 : Int) from by rw [eF793]; exact uF_j (by decide))))]; omega)) (Or.inl (by rw [show F818 (p) (5 : Int) = F (p) (5 : Int) from ((show F818 (p) (5 : Int) = F805 (p) (5 : Int) from hM821 _ _ o_p (own_z o_p) (by rw [t_p]; rfl)).trans ((show F805 (p) (5 : Int) = F793 (p) (5 : Int) from hM807 _ _ o_p (own_z o_p) (by rw [t_p]; rfl)).trans (show F793 (p) (5 : Int) = F (p) (5 : Int) from by rw [eF793]; exact uF_j (by decide))))]; omega)) (Or.inl (by rw [show F818 (p) (6 : Int) = F (p) (6 : Int) from ((show F818 (p) (6 : Int) = F805 (p) (6 : Int) from hM821 _ _ o_p (own_z o_p) (by rw [t_p]; rfl)).trans ((show F805 (p) (6 : Int) = F793 (p) (6 : Int) from hM807 _ _ o_p (own_z o_p) (by rw [t_p]; rfl)).trans (show F793 (p) (6 : Int) = F (p) (6 : Int) from by rw [eF793]; exact uF_j (by decide))))]; omega)) (Or.inl (by rw [show F818 (p) (7 : Int) = F (p) (7 : Int) from ((show F818 (p) (7 : Int) = F805 (p) (7 : Int) from hM821 _ _ o_p (own_z o_p) (by rw [t_p]; rfl)).trans ((show F805 (p) (7 : Int) = F793 (p) (7 : Int) from hM807 _ _ o_p (own_z o_p) (by rw [t_p]; rfl)).trans (show F793 (p) (7 : Int) = F (p) (7 : Int) from by rw [eF793]; exact uF_j (by decide))))]; omega)) (Or.inl (by rw [show F818 (p) (0 : Int) = 0 from ((show F818 (p) (0 : Int) = F805 (p) (0 : Int) from hM821 _ _ o_p (own_z o_p) (by rw [t_p]; rfl)).trans ((show F805 (p) (0 : Int) = F793 (p) (0 : Int) from hM807 _ _ o_p (own_z o_p) (by rw [t_p]; rfl)).trans (show F793 (p) (0 : Int) = 0 from by rw [eF793]; exact uF_e)))]; omega))), c829, c849, trivial⟩
  by_cases h855 : F (sc) (15 : Int) = 17
  · refine jx_swe (tg := 84) h855 rfl rfl rfl rfl ?_
    have t856 : tz (F (sc) (15 : Int)) = 1 := tz_p (by omega)
    refine jx_ld (pc_q := 85) (l_q := L0) (st_q := [rv (p)]) rfl (jl_rvn g2) ?_
    refine jx_ld (pc_q := 86) (l_q := L0) (st_q := [rv (me), rv (p)]) rfl (jl_rvn g1) ?_
    refine cx_gr (pc_q := 89) (c := 8) (q := 1) (v := sc) rfl rfl (by decide) (by decide) rfl rfl o_me t_me e_sc ?_
    refine cx_gi (pc_q := 92) (c := 10) (q := 15) (v := F (sc) (15 : Int)) rfl rfl (by decide) (by decide) (Or.inl rfl) rfl o_sc t_sc rfl ?_
    refine jx_ar (pc_q := 94) (st_q := [.int (i32 (16)), .int (i32 (F (sc) (15 : Int))), rv (p)]) rfl rfl rfl rfl ?_
    refine jx_icmp_ne (pc_q := 97) (tg := 101) rfl rfl rfl (by omega) (by omega) (by decide) (by decide) (fun h857 => ?_) (fun h857 => ?_)
    · have _q := h857
      refine jx_ar (pc_q := 102) (st_q := [.int (i32 (1)), rv (p)]) rfl rfl rfl rfl ?_
      refine cx_pi (pc_q := 105) (c := 7) (q := 0) (qi := (0 : Int)) (z := 1) rfl rfl (by decide) (by decide) rfl rfl rfl (by decide) rfl o_p t_p rfl ?_
      obtain ⟨F858, eF858⟩ : ∃ q, q = uF F (p) (0 : Int) (1) := ⟨_, rfl⟩
      rw [← eF858]
      have hC859 : HC 0 m tg ln F858 := by rw [eF858]; exact HC_fi (c := 7) (q := 0) hC t_p (by decide) rfl (by omega) (by omega) ⟨fun w => absurd w (by decide), fun w => absurd w (by decide)⟩
      have hM860 : Fq p [(7, 15), (9, 2), (9, 3), (10, 0), (10, 1), (10, 2), (10, 8), (10, 9), (11, 8), (11, 12), (11, 13), (11, 14), (11, 15), (11, 16), (11, 17), (11, 18)] m tg F F858 := by rw [eF858]; exact Fq_x hM0 (Or.inl rfl)
      have c861 : NP m tg F858 := by rw [eF858]; exact NP_un hC c_NP o_p t_p (by omega) (by decide) (Or.inl (by decide))
      refine jx_ld (pc_q := 106) (l_q := L0) (st_q := [rv (me)]) rfl (jl_rvn g1) ?_
      refine cx_gr (pc_q := 109) (c := 8) (q := 1) (v := sc) rfl rfl (by decide) (by decide) rfl rfl o_me t_me ((show F858 (me) (1 : Int) = F (me) (1 : Int) from by rw [eF858]; exact uF_j (by decide)).trans e_sc) ?_
      have q862 : F858 (sc) (8 : Int) = F (sc) (8 : Int) := (show F858 (sc) (8 : Int) = F (sc) (8 : Int) from by rw [eF858]; exact uF_j (by decide))
      have q863 : F858 (sc) (15 : Int) = F (sc) (15 : Int) := (show F858 (sc) (15 : Int) = F (sc) (15 : Int) from by rw [eF858]; exact uF_j (by decide))
      have q864 : tz (F858 (sc) (15 : Int)) = tz (F (sc) (15 : Int)) := by rw [q863]
      have q865 := tz_b (F (sc) (15 : Int))
      have q866 : F858 (sc) (7 : Int) = F (sc) (7 : Int) := (show F858 (sc) (7 : Int) = F (sc) (7 : Int) from by rw [eF858]; exact uF_j (by decide))
      have q867 : F858 (sc) (14 : Int) = F (sc) (14 : Int) := (show F858 (sc) (14 : Int) = F (sc) (14 : Int) from by rw [eF858]; exact uF_j (by decide))
      have q868 : lz (F858 (sc) (14 : Int)) = lz (F (sc) (14 : Int)) := by rw [q867]
      have q869 := lz_b (F (sc) (14 : Int))
      refine cx_vi (c := 10) (a := sc) (st := []) (as := []) rfl rfl rfl o_sc t_sc (by decide) rfl ⟨rfl, rfl, (Nat.le_of_ble_eq_true rfl)⟩ rfl (k_LScanner_next (dd := d) (R := R) (m := m) (tg := tg) (ln := ln) (F := F858) (me := sc) (hd := by omega) (hC := hC859) (o_me := o_sc) (t_me := t_sc) (p_0 := by omega) (p_1 := by omega)) (fun o V_q hq => ?_)
      obtain ⟨F870, rfl, rfl, hC871, hM872, p873, p874, p875, -⟩ := hq
      have hM876 : Fq p [(7, 15), (9, 2), (9, 3), (10, 0), (10, 1), (10, 2), (10, 8), (10, 9), (11, 8), (11, 12), (11, 13), (11, 14), (11, 15), (11, 16), (11, 17), (11, 18)] m tg F F870 := Fq_t (ln := ln) (ln1 := ln) hM860 hX0 hM872 (by decide) (Or.inr (Or.inl rfl))
      have c877 : NP m tg F870 := NP_q hC859 c861 hM872 rfl rfl
      refine Or.inl ⟨rfl, ?_⟩
      refine jx_ld (pc_q := 113) (l_q := L0) (st_q := [rv (me)]) rfl (jl_rvn g1) ?_
      have q878 := tz_b (F870 (sc) (15 : Int))
      have q879 : F870 (sc) (7 : Int) = F (sc) (7 : Int) := ((show F870 (sc) (7 : Int) = F858 (sc) (7 : Int) from hM872 _ _ o_sc (own_z o_sc) (by rw [t_sc]; rfl)).trans q866)
      have q880 := lz_b (F870 (sc) (14 : Int))
      have q881 : F870 (pg) (9 : Int) = F (pg) (9 : Int) := ((show F870 (pg) (9 : Int) = F858 (pg) (9 : Int) from hM872 _ _ o_pg (own_z o_pg) (by rw [t_pg]; rfl)).trans (show F858 (pg) (9 : Int) = F (pg) (9 : Int) from by rw [eF858]; exact uF_j (by decide)))
      refine cx_vi (c := 8) (a := me) (st := []) (as := []) rfl rfl rfl o_me t_me (by decide) rfl ⟨rfl, rfl, (Nat.le_of_ble_eq_true rfl)⟩ rfl (k_LParser_endLine (dd := d) (R := R) (m := m) (tg := tg) (ln := ln) (F := F870) (me := me) (hd := by omega) (hC := hC871) (o_me := o_me) (t_me := t_me) (sc := sc) (pg := pg) (o_sc := o_sc) (t_sc := t_sc) (e_sc := (((show F870 (me) (1 : Int) = F858 (me) (1 : Int) from hM872 _ _ o_me (own_z o_me) (by rw [t_me]; rfl)).trans (show F858 (me) (1 : Int) = F (me) (1 : Int) from by rw [eF858]; exact uF_j (by decide))).trans e_sc)) (o_pg := o_pg) (t_pg := t_pg) (e_pg := (((show F870 (me) (0 : Int) = F858 (me) (0 : Int) from hM872 _ _ o_me (own_z o_me) (by rw [t_me]; rfl)).trans (show F858 (me) (0 : Int) = F (me) (0 : Int) from by rw [eF858]; exact uF_a (fun w => by have q1 := t_me; have q2 := t_p; rw [w, q2] at q1; exact absurd q1 (by decide)))).trans e_pg)) (p_0 := by omega) (p_1 := by omega) (p_2 := by omega) (c_NP := c877)) (fun o V_q hq => ?_)
      obtain ⟨m882, tg882, ln882, F883, rfl, rfl, hx884, hC885, hM886, p887, p888, p889, p890, p891, p892, p893, c894, c895, -⟩ | ⟨m896, tg896, ln896, F896, x896, rfl, rfl, hx896, hC896, hM896, ho896, ht896, p897, p898, p899, p900, c901, c902, -⟩ := hq
      rotate_left
      ·
        have c903 : NM m m896 tg896 := NM_t NM_0 hx896 c902
        have lm904 := hx896.1
        refine Or.inr (Or.inr (Or.inr ⟨_, _, rfl, cx_exc (c := 15) ho896 ht896 (by decide), rfl, ?_⟩))
        have q905 : F870 (sc) (7 : Int) = F (sc) (7 : Int) := q879
        exact Or.inr ⟨m896, tg896, ln896, F896, x896, rfl, rfl, Ex_t hX0 hx896, hC896, Fq_t (ln := ln) (ln1 := ln) hM876 hX0 hM896 (by decide) (Or.inr (Or.inl rfl)), (And.intro ho896 ht896).1, (And.intro ho896 ht896).2, by omega, by omega, by omega, by omega, c901, c903, trivial⟩
      have hM906 : Fq p [(7, 15), (9, 2), (9, 3), (10, 0), (10, 1), (10, 2), (10, 8), (10, 9), (11, 8), (11, 12), (11, 13), (11, 14), (11, 15), (11, 16), (11, 17), (11, 18)] m tg F F883 := Fq_t (ln := ln) (ln1 := ln) hM876 hX0 hM886 (by decide) (Or.inr (Or.inl rfl))
      have lm907 := hx884.1
      have lt908 : p < 64 + (m : Int) := o_p.2.1
      have ho909 : own m882 (me) ∧ tg882 (me) = 9 := Ex_o hx884 ⟨o_me, t_me⟩
      have ho910 : own m882 (p) ∧ tg882 (p) = 8 := Ex_o hx884 ⟨o_p, t_p⟩
      have ho911 : own m882 (sc) ∧ tg882 (sc) = 11 := Ex_o hx884 ⟨o_sc, t_sc⟩
      have ho912 : own m882 (pg) ∧ tg882 (pg) = 10 := Ex_o hx884 ⟨o_pg, t_pg⟩
      have hX913 := Ex_t hX0 hx884
      have c914 : NM m m882 tg882 := NM_t NM_0 hx884 c895
      refine Or.inl ⟨rfl, ?_⟩
      refine jx_go (tg := 245) rfl rfl ?_
      refine jx_rt (v := none) rfl rfl rfl rfl rfl rfl ?_
      have q915 : F883 (sc) (7 : Int) = F (sc) (7 : Int) := ((show F883 (sc) (7 : Int) = F870 (sc) (7 : Int) from hM886 _ _ o_sc (own_z o_sc) (by rw [t_sc]; rfl)).trans q879)
      have q916 : F883 (pg) (9 : Int) = F (pg) (9 : Int) := ((show F883 (pg) (9 : Int) = F870 (pg) (9 : Int) from hM886 _ _ o_pg (own_z o_pg) (by rw [t_pg]; rfl)).trans q881)
      have q917 := tz_b (F883 (sc) (15 : Int))
      have q918 := lz_b (F883 (sc) (14 : Int))
      have q919 : F883 (pg) (9 : Int) = F (pg) (9 : Int) := q916
      exact Or.inl ⟨m882, tg882, ln882, F883, rfl, rfl, hX913, hC885, hM906, by omega, by omega, by omega, by omega, by omega, by omega, (WK_i (K := 60 - 2 * lv) (by rw [show F883 (p) (103 : Int) = F (p) (103 : Int) from ((show F883 (p) (103 : Int) = F870 (p) (103 : Int) from hM886 _ _ o_p (own_z o_p) (by rw [t_p]; rfl)).trans ((show F870 (p) (103 : Int) = F858 (p) (103 : Int) from hM872 _ _ o_p (own_z o_p) (by rw [t_p]; rfl)).trans (show F858 (p) (103 : Int) = F (p) (103 : Int) from by rw [eF858]; exact uF_j (by decide))))]; omega) (by rw [show F883 (p) (101 : Int) = F (p) (101 : Int) from ((show F883 (p) (101 : Int) = F870 (p) (101 : Int) from hM886 _ _ o_p (own_z o_p) (by rw [t_p]; rfl)).trans ((show F870 (p) (101 : Int) = F858 (p) (101 : Int) from hM872 _ _ o_p (own_z o_p) (by rw [t_p]; rfl)).trans (show F858 (p) (101 : Int) = F (p) (101 : Int) from by rw [eF858]; exact uF_j (by decide))))]; omega) (by rw [show F883 (p) (8 : Int) = F (p) (8 : Int) from ((show F883 (p) (8 : Int) = F870 (p) (8 : Int) from hM886 _ _ o_p (own_z o_p) (by rw [t_p]; rfl)).trans ((show F870 (p) (8 : Int) = F858 (p) (8 : Int) from hM872 _ _ o_p (own_z o_p) (by rw [t_p]; rfl)).trans (show F858 (p) (8 : Int) = F (p) (8 : Int) from by rw [eF858]; exact uF_j (by decide))))]; omega) (Or.inl (by rw [show F883 (p) (4 : Int) = F (p) (4 : Int) from ((show F883 (p) (4 : Int) = F870 (p) (4 : Int) from hM886 _ _ o_p (own_z o_p) (by rw [t_p]; rfl)).trans ((show F870 (p) (4 : Int) = F858 (p) (4 : Int) from hM872 _ _ o_p (own_z o_p) (by rw [t_p]; rfl)).trans (show F858 (p) (4 : Int) = F (p) (4 : Int) from by rw [eF858]; exact uF_j (by decide))))]; omega)) (Or.inl (by rw [show F883 (p) (5 : Int) = F (p) (5 : Int) from ((show F883 (p) (5 : Int) = F870 (p) (5 : Int) from hM886 _ _ o_p (own_z o_p) (by rw [t_p]; rfl)).trans ((show F870 (p) (5 : Int) = F858 (p) (5 : Int) from hM872 _ _ o_p (own_z o_p) (by rw [t_p]; rfl)).trans (show F858 (p) (5 : Int) = F (p) (5 : Int) from by rw [eF858]; exact uF_j (by decide))))]; omega)) (Or.inl (by rw [show F883 (p) (6 : Int) = F (p) (6 : Int) from ((show F883 (p) (6 : Int) = F870 (p) (6 : Int) from hM886 _ _ o_p (own_z o_p) (by rw [t_p]; rfl)).trans ((show F870 (p) (6 : Int) = F858 (p) (6 : Int) from hM872 _ _ o_p (own_z o_p) (by rw [t_p]; rfl)).trans (show F858 (p) (6 : Int) = F (p) (6 : Int) from by rw [eF858]; exact uF_j (by decide))))]; omega)) (Or.inl (by rw [show F883 (p) (7 : Int) = F (p) (7 : Int) from ((show F883 (p) (7 : Int) = F870 (p) (7 : Int) from hM886 _ _ o_p (own_z o_p) (by rw [t_p]; rfl)).trans ((show F870 (p) (7 : Int) = F858 (p) (7 : Int) from hM872 _ _ o_p (own_z o_p) (by rw [t_p]; rfl)).trans (show F858 (p) (7 : Int) = F (p) (7 : Int) from by rw [eF858]; exact uF_j (by decide))))]; omega)) (Or.inl (by rw [show F883 (p) (0 : Int) = 1 from ((show F883 (p) (0 : Int) = F870 (p) (0 : Int) from hM886 _ _ o_p (own_z o_p) (by rw [t_p]; rfl)).trans ((show F870 (p) (0 : Int) = F858 (p) (0 : Int) from hM872 _ _ o_p (own_z o_p) (by rw [t_p]; rfl)).trans (show F858 (p) (0 : Int) = 1 from by rw [eF858]; exact uF_e)))]; omega))), c894, c914, trivial⟩
    · have _q := h857
      have t920 : tz (F (sc) (15 : Int)) = 1 := tz_p (by omega)
      refine jx_ar (pc_q := 98) (st_q := [.int (i32 (0)), rv (p)]) rfl rfl rfl rfl ?_
      refine jx_go (tg := 102) rfl rfl ?_
      refine cx_pi (pc_q := 105) (c := 7) (q := 0) (qi := (0 : Int)) (z := 0) rfl rfl (by decide) (by decide) rfl rfl rfl (by decide) rfl o_p t_p rfl ?_
      obtain ⟨F921, eF921⟩ : ∃ q, q = uF F (p) (0 : Int) (0) := ⟨_, rfl⟩
      rw [← eF921]
      have hC922 : HC 0 m tg ln F921 := by rw [eF921]; exact HC_fi (c := 7) (q := 0) hC t_p (by decide) rfl (by omega) (by omega) ⟨fun w => absurd w (by decide), fun w => absurd w (by decide)⟩
      have hM923 : Fq p [(7, 15), (9, 2), (9, 3), (10, 0), (10, 1), (10, 2), (10, 8), (10, 9), (11, 8), (11, 12), (11, 13), (11, 14), (11, 15), (11, 16), (11, 17), (11, 18)] m tg F F921 := by rw [eF921]; exact Fq_x hM0 (Or.inl rfl)
      have c924 : NP m tg F921 := by rw [eF921]; exact NP_un hC c_NP o_p t_p (by omega) (by decide) (Or.inl (by decide))
      refine jx_ld (pc_q := 106) (l_q := L0) (st_q := [rv (me)]) rfl (jl_rvn g1) ?_
      refine cx_gr (pc_q := 109) (c := 8) (q := 1) (v := sc) rfl rfl (by decide) (by decide) rfl rfl o_me t_me ((show F921 (me) (1 : Int) = F (me) (1 : Int) from by rw [eF921]; exact uF_j (by decide)).trans e_sc) ?_
      have q925 : F921 (sc) (8 : Int) = F (sc) (8 : Int) := (show F921 (sc) (8 : Int) = F (sc) (8 : Int) from by rw [eF921]; exact uF_j (by decide))
      have q926 : F921 (sc) (15 : Int) = F (sc) (15 : Int) := (show F921 (sc) (15 : Int) = F (sc) (15 : Int) from by rw [eF921]; exact uF_j (by decide))
      have q927 : tz (F921 (sc) (15 : Int)) = tz (F (sc) (15 : Int)) := by rw [q926]
      have q928 := tz_b (F (sc) (15 : Int))
      have q929 : F921 (sc) (7 : Int) = F (sc) (7 : Int) := (show F921 (sc) (7 : Int) = F (sc) (7 : Int) from by rw [eF921]; exact uF_j (by decide))
      have q930 : F921 (sc) (14 : Int) = F (sc) (14 : Int) := (show F921 (sc) (14 : Int) = F (sc) (14 : Int) from by rw [eF921]; exact uF_j (by decide))
      have q931 : lz (F921 (sc) (14 : Int)) = lz (F (sc) (14 : Int)) := by rw [q930]
      have q932 := lz_b (F (sc) (14 : Int))
      refine cx_vi (c := 10) (a := sc) (st := []) (as := []) rfl rfl rfl o_sc t_sc (by decide) rfl ⟨rfl, rfl, (Nat.le_of_ble_eq_true rfl)⟩ rfl (k_LScanner_next (dd := d) (R := R) (m := m) (tg := tg) (ln := ln) (F := F921) (me := sc) (hd := by omega) (hC := hC922) (o_me := o_sc) (t_me := t_sc) (p_0 := by omega) (p_1 := by omega)) (fun o V_q hq => ?_)
      obtain ⟨F933, rfl, rfl, hC934, hM935, p936, p937, p938, -⟩ := hq
      have hM939 : Fq p [(7, 15), (9, 2), (9, 3), (10, 0), (10, 1), (10, 2), (10, 8), (10, 9), (11, 8), (11, 12), (11, 13), (11, 14), (11, 15), (11, 16), (11, 17), (11, 18)] m tg F F933 := Fq_t (ln := ln) (ln1 := ln) hM923 hX0 hM935 (by decide) (Or.inr (Or.inl rfl))
      have c940 : NP m tg F933 := NP_q hC922 c924 hM935 rfl rfl
      refine Or.inl ⟨rfl, ?_⟩
      refine jx_ld (pc_q := 113) (l_q := L0) (st_q := [rv (me)]) rfl (jl_rvn g1) ?_
      have q941 := tz_b (F933 (sc) (15 : Int))
      have q942 : F933 (sc) (7 : Int) = F (sc) (7 : Int) := ((show F933 (sc) (7 : Int) = F921 (sc) (7 : Int) from hM935 _ _ o_sc (own_z o_sc) (by rw [t_sc]; rfl)).trans q929)
      have q943 := lz_b (F933 (sc) (14 : Int))
      have q944 : F933 (pg) (9 : Int) = F (pg) (9 : Int) := ((show F933 (pg) (9 : Int) = F921 (pg) (9 : Int) from hM935 _ _ o_pg (own_z o_pg) (by rw [t_pg]; rfl)).trans (show F921 (pg) (9 : Int) = F (pg) (9 : Int) from by rw [eF921]; exact uF_j (by decide)))
      refine cx_vi (c := 8) (a := me) (st := []) (as := []) rfl rfl rfl o_me t_me (by decide) rfl ⟨rfl, rfl, (Nat.le_of_ble_eq_true rfl)⟩ rfl (k_LParser_endLine (dd := d) (R := R) (m := m) (tg := tg) (ln := ln) (F := F933) (me := me) (hd := by omega) (hC := hC934) (o_me := o_me) (t_me := t_me) (sc := sc) (pg := pg) (o_sc := o_sc) (t_sc := t_sc) (e_sc := (((show F933 (me) (1 : Int) = F921 (me) (1 : Int) from hM935 _ _ o_me (own_z o_me) (by rw [t_me]; rfl)).trans (show F921 (me) (1 : Int) = F (me) (1 : Int) from by rw [eF921]; exact uF_j (by decide))).trans e_sc)) (o_pg := o_pg) (t_pg := t_pg) (e_pg := (((show F933 (me) (0 : Int) = F921 (me) (0 : Int) from hM935 _ _ o_me (own_z o_me) (by rw [t_me]; rfl)).trans (show F921 (me) (0 : Int) = F (me) (0 : Int) from by rw [eF921]; exact uF_a (fun w => by have q1 := t_me; have q2 := t_p; rw [w, q2] at q1; exact absurd q1 (by decide)))).trans e_pg)) (p_0 := by omega) (p_1 := by omega) (p_2 := by omega) (c_NP := c940)) (fun o V_q hq => ?_)
      obtain ⟨m945, tg945, ln945, F946, rfl, rfl, hx947, hC948, hM949, p950, p951, p952, p953, p954, p955, p956, c957, c958, -⟩ | ⟨m959, tg959, ln959, F959, x959, rfl, rfl, hx959, hC959, hM959, ho959, ht959, p960, p961, p962, p963, c964, c965, -⟩ := hq
      rotate_left
      ·
        have c966 : NM m m959 tg959 := NM_t NM_0 hx959 c965
        have lm967 := hx959.1
        refine Or.inr (Or.inr (Or.inr ⟨_, _, rfl, cx_exc (c := 15) ho959 ht959 (by decide), rfl, ?_⟩))
        have q968 : F933 (sc) (7 : Int) = F (sc) (7 : Int) := q942
        exact Or.inr ⟨m959, tg959, ln959, F959, x959, rfl, rfl, Ex_t hX0 hx959, hC959, Fq_t (ln := ln) (ln1 := ln) hM939 hX0 hM959 (by decide) (Or.inr (Or.inl rfl)), (And.intro ho959 ht959).1, (And.intro ho959 ht959).2, by omega, by omega, by omega, by omega, c964, c966, trivial⟩
      have hM969 : Fq p [(7, 15), (9, 2), (9, 3), (10, 0), (10, 1), (10, 2), (10, 8), (10, 9), (11, 8), (11, 12), (11, 13), (11, 14), (11, 15), (11, 16), (11, 17), (11, 18)] m tg F F946 := Fq_t (ln := ln) (ln1 := ln) hM939 hX0 hM949 (by decide) (Or.inr (Or.inl rfl))
      have lm970 := hx947.1
      have lt971 : p < 64 + (m : Int) := o_p.2.1
      have ho972 : own m945 (me) ∧ tg945 (me) = 9 := Ex_o hx947 ⟨o_me, t_me⟩
      have ho973 : own m945 (p) ∧ tg945 (p) = 8 := Ex_o hx947 ⟨o_p, t_p⟩
      have ho974 : own m945 (sc) ∧ tg945 (sc) = 11 := Ex_o hx947 ⟨o_sc, t_sc⟩
      have ho975 : own m945 (pg) ∧ tg945 (pg) = 10 := Ex_o hx947 ⟨o_pg, t_pg⟩
      have hX976 := Ex_t hX0 hx947
      have c977 : NM m m945 tg945 := NM_t NM_0 hx947 c958
      refine Or.inl ⟨rfl, ?_⟩
      refine jx_go (tg := 245) rfl rfl ?_
      refine jx_rt (v := none) rfl rfl rfl rfl rfl rfl ?_
      have q978 : F946 (sc) (7 : Int) = F (sc) (7 : Int) := ((show F946 (sc) (7 : Int) = F933 (sc) (7 : Int) from hM949 _ _ o_sc (own_z o_sc) (by rw [t_sc]; rfl)).trans q942)
      have q979 : F946 (pg) (9 : Int) = F (pg) (9 : Int) := ((show F946 (pg) (9 : Int) = F933 (pg) (9 : Int) from hM949 _ _ o_pg (own_z o_pg) (by rw [t_pg]; rfl)).trans q944)
      have q980 := tz_b (F946 (sc) (15 : Int))
      have q981 := lz_b (F946 (sc) (14 : Int))
      have q982 : F946 (pg) (9 : Int) = F (pg) (9 : Int) := q979
      exact Or.inl ⟨m945, tg945, ln945, F946, rfl, rfl, hX976, hC948, hM969, by omega, by omega, by omega, by omega, by omega, by omega, (WK_i (K := 60 - 2 * lv) (by rw [show F946 (p) (103 : Int) = F (p) (103 : Int) from ((show F946 (p) (103 : Int) = F933 (p) (103 : Int) from hM949 _ _ o_p (own_z o_p) (by rw [t_p]; rfl)).trans ((show F933 (p) (103 : Int) = F921 (p) (103 : Int) from hM935 _ _ o_p (own_z o_p) (by rw [t_p]; rfl)).trans (show F921 (p) (103 : Int) = F (p) (103 : Int) from by rw [eF921]; exact uF_j (by decide))))]; omega) (by rw [show F946 (p) (101 : Int) = F (p) (101 : Int) from ((show F946 (p) (101 : Int) = F933 (p) (101 : Int) from hM949 _ _ o_p (own_z o_p) (by rw [t_p]; rfl)).trans ((show F933 (p) (101 : Int) = F921 (p) (101 : Int) from hM935 _ _ o_p (own_z o_p) (by rw [t_p]; rfl)).trans (show F921 (p) (101 : Int) = F (p) (101 : Int) from by rw [eF921]; exact uF_j (by decide))))]; omega) (by rw [show F946 (p) (8 : Int) = F (p) (8 : Int) from ((show F946 (p) (8 : Int) = F933 (p) (8 : Int) from hM949 _ _ o_p (own_z o_p) (by rw [t_p]; rfl)).trans ((show F933 (p) (8 : Int) = F921 (p) (8 : Int) from hM935 _ _ o_p (own_z o_p) (by rw [t_p]; rfl)).trans (show F921 (p) (8 : Int) = F (p) (8 : Int) from by rw [eF921]; exact uF_j (by decide))))]; omega) (Or.inl (by rw [show F946 (p) (4 : Int) = F (p) (4 : Int) from ((show F946 (p) (4 : Int) = F933 (p) (4 : Int) from hM949 _ _ o_p (own_z o_p) (by rw [t_p]; rfl)).trans ((show F933 (p) (4 : Int) = F921 (p) (4 : Int) from hM935 _ _ o_p (own_z o_p) (by rw [t_p]; rfl)).trans (show F921 (p) (4 : Int) = F (p) (4 : Int) from by rw [eF921]; exact uF_j (by decide))))]; omega)) (Or.inl (by rw [show F946 (p) (5 : Int) = F (p) (5 : Int) from ((show F946 (p) (5 : Int) = F933 (p) (5 : Int) from hM949 _ _ o_p (own_z o_p) (by rw [t_p]; rfl)).trans ((show F933 (p) (5 : Int) = F921 (p) (5 : Int) from hM935 _ _ o_p (own_z o_p) (by rw [t_p]; rfl)).trans (show F921 (p) (5 : Int) = F (p) (5 : Int) from by rw [eF921]; exact uF_j (by decide))))]; omega)) (Or.inl (by rw [show F946 (p) (6 : Int) = F (p) (6 : Int) from ((show F946 (p) (6 : Int) = F933 (p) (6 : Int) from hM949 _ _ o_p (own_z o_p) (by rw [t_p]; rfl)).trans ((show F933 (p) (6 : Int) = F921 (p) (6 : Int) from hM935 _ _ o_p (own_z o_p) (by rw [t_p]; rfl)).trans (show F921 (p) (6 : Int) = F (p) (6 : Int) from by rw [eF921]; exact uF_j (by decide))))]; omega)) (Or.inl (by rw [show F946 (p) (7 : Int) = F (p) (7 : Int) from ((show F946 (p) (7 : Int) = F933 (p) (7 : Int) from hM949 _ _ o_p (own_z o_p) (by rw [t_p]; rfl)).trans ((show F933 (p) (7 : Int) = F921 (p) (7 : Int) from hM935 _ _ o_p (own_z o_p) (by rw [t_p]; rfl)).trans (show F921 (p) (7 : Int) = F (p) (7 : Int) from by rw [eF921]; exact uF_j (by decide))))]; omega)) (Or.inl (by rw [show F946 (p) (0 : Int) = 0 from ((show F946 (p) (0 : Int) = F933 (p) (0 : Int) from hM949 _ _ o_p (own_z o_p) (by rw [t_p]; rfl)).trans ((show F933 (p) (0 : Int) = F921 (p) (0 : Int) from hM935 _ _ o_p (own_z o_p) (by rw [t_p]; rfl)).trans (show F921 (p) (0 : Int) = 0 from by rw [eF921]; exact uF_e)))]; omega))), c957, c977, trivial⟩
  refine jx_swt (tg := 241) (by omega) (by omega) rfl (by omega) rfl ?_
  refine jx_ld (pc_q := 242) (l_q := L0) (st_q := [rv (me)]) rfl (jl_rvn g1) ?_
  refine cx_vi (c := 8) (a := me) (st := []) (as := []) rfl rfl rfl o_me t_me (by decide) rfl ⟨rfl, rfl, (Nat.le_of_ble_eq_true rfl)⟩ rfl (k_LParser_form (dd := d) (R := R) (m := m) (tg := tg) (ln := ln) (F := F) (me := me) (hd := by omega) (hC := hC) (o_me := o_me) (t_me := t_me) (sc := sc) (pg := pg) (o_sc := o_sc) (t_sc := t_sc) (e_sc := e_sc) (o_pg := o_pg) (t_pg := t_pg) (e_pg := e_pg) (p_0 := by omega) (c_NP := c_NP)) (fun o V_q hq => ?_)
  obtain ⟨m983, tg983, ln983, F984, rfl, rfl, hx985, hC986, hM987, p988, c989, c990, -⟩ | ⟨m991, tg991, ln991, F991, x991, rfl, rfl, hx991, hC991, hM991, ho991, ht991, p992, p993, p994, p995, c996, c997, -⟩ := hq
  rotate_left
  ·
    have c998 : NM m m991 tg991 := NM_t NM_0 hx991 c997
    have lm999 := hx991.1
    refine Or.inr (Or.inr (Or.inr ⟨_, _, rfl, cx_exc (c := 15) ho991 ht991 (by decide), rfl, ?_⟩))
    exact Or.inr ⟨m991, tg991, ln991, F991, x991, rfl, rfl, Ex_t hX0 hx991, hC991, Fq_t (ln := ln) (ln1 := ln) hM0 hX0 hM991 (by decide) (Or.inr (Or.inl rfl)), (And.intro ho991 ht991).1, (And.intro ho991 ht991).2, by omega, by omega, by omega, by omega, c996, c998, trivial⟩
  exact p988.elim
