set_option maxRecDepth 20000 in
set_option maxHeartbeats 4000000 in
theorem k_LParser_append {X : jX} {dd : Nat} {R : Nat → jC} {m : Nat} {tg ln : Int → Int} {F : Int → Int → Int} {p la ch : Int} (hd : 1 ≤ dd) (hC : HC 0 m tg ln F) (o_p : own m p) (t_p : tg p = 8) (y_la : la = 0 ∨ (own m la ∧ tg la = 8)) (o_ch : own m ch) (t_ch : tg ch = 8) : wk X dd 186 [rv p, rv la, rv ch] (cV R m tg ln F) (fun o V_q => ∃ z : Int, (-2147483648 ≤ z ∧ z ≤ 2147483647) ∧ o = .inl (some (rv ch)) ∧ ((la = 0 ∧ V_q = cV R m tg ln (uF (uF F p 4 ch) p 2 z)) ∨ (la ≠ 0 ∧ V_q = cV R m tg ln (uF (uF F la 8 ch) p 2 z)))) := by
  obtain ⟨d, rfl⟩ : ∃ d, dd = d + 1 := ⟨dd - 1, by omega⟩
  refine wk_of (e := jm186) rfl (by rw [jS_r, jS_r, jS_r, jS_0]; exact Nat.le_of_ble_eq_true rfl) ?_
  rw [la_r, la_r, la_r, la_0]
  show wj X d jm186 (0, [(0, rv (p)), (1, rv (la)), (2, rv (ch))], [], cV R m tg ln F) _
  have hM0 : Fq 0 [(8, 2), (8, 4), (8, 8)] m tg F F := Fq_r
  obtain ⟨L0, eL0⟩ : ∃ q : jL, q = [(0, rv (p)), (1, rv (la)), (2, rv (ch))] := ⟨_, rfl⟩
  rw [← eL0]
  have g1 : jGet L0 0 = some (rv (p)) := eL0 ▸ (rfl : jGet [(0, rv (p)), (1, rv (la)), (2, rv (ch))] 0 = some (rv (p)))
  have g2 : jGet L0 1 = some (rv (la)) := eL0 ▸ (rfl : jGet [(0, rv (p)), (1, rv (la)), (2, rv (ch))] 1 = some (rv (la)))
  have g3 : jGet L0 2 = some (rv (ch)) := eL0 ▸ (rfl : jGet [(0, rv (p)), (1, rv (la)), (2, rv (ch))] 2 = some (rv (ch)))
  clear eL0
  refine jx_ld (pc_q := 1) (l_q := L0) (st_q := [rv (la)]) rfl (jl_rvn g2) ?_
  refine cx_non (pc_q := 4) (tg_q := 12) rfl rfl rfl (fun h4 => ?_) (fun h4 => ?_)
  · have _q := h4
    have ho5 : own m (la) ∧ tg (la) = 8 := y_la.resolve_left h4
    refine jx_ld (pc_q := 13) (l_q := L0) (st_q := [rv (la)]) rfl (jl_rvn g2) ?_
    refine jx_ld (pc_q := 14) (l_q := L0) (st_q := [rv (ch), rv (la)]) rfl (jl_rvn g3) ?_
    refine cx_po (pc_q := 17) (c := 7) (q := 8) (qi := (8 : Int)) (z := ch) rfl rfl (by decide) (by decide) rfl rfl rfl (by decide) rfl ho5.1 ho5.2 rfl ?_
    obtain ⟨F6, eF6⟩ : ∃ q, q = uF F (la) (8 : Int) (ch) := ⟨_, rfl⟩
    rw [← eF6]
    have hC7 : HC 0 m tg ln F6 := by rw [eF6]; exact HC_fr (c := 7) (q := 8) (by decide) hC ho5.2 (by decide) rfl (Or.inr ⟨o_ch, t_ch⟩) ⟨fun w => absurd w (by decide), fun w => absurd w (by decide)⟩
    have hM8 : Fq 0 [(8, 2), (8, 4), (8, 8)] m tg F F6 := by rw [eF6]; exact Fq_p hM0 ho5.2 (fun _ => rfl) rfl
    refine jx_ld (pc_q := 18) (l_q := L0) (st_q := [rv (p)]) rfl (jl_rvn g1) ?_
    refine jx_ar (pc_q := 19) (st_q := [rv (p), rv (p)]) rfl rfl ja_dup rfl ?_
    refine cx_gi (pc_q := 22) (c := 7) (q := 2) (v := F (p) (2 : Int)) rfl rfl (by decide) (by decide) (Or.inl rfl) rfl o_p t_p (show F6 (p) (2 : Int) = F (p) (2 : Int) from by rw [eF6]; exact uF_j (by decide)) ?_
    have b9 : (-2147483648 : Int) ≤ F (p) (2 : Int) ∧ F (p) (2 : Int) ≤ 2147483647 := by have z := HC_i (c := 7) (q := 2) hC7 o_p t_p (by decide) rfl; rw [show F6 (p) ((2 : Nat) : Int) = F (p) (2 : Int) from (show F6 (p) (2 : Int) = F (p) (2 : Int) from by rw [eF6]; exact uF_j (by decide))] at z; exact z
    refine jx_ar (pc_q := 23) (st_q := [.int (i32 (1)), .int (i32 (F (p) (2 : Int))), rv (p)]) rfl rfl rfl rfl ?_
    refine jx_add (pc_q := 24) rfl rfl ?_
    obtain ⟨z10, ez10⟩ : ∃ q, q = (i32 ((F (p) (2 : Int) + 1))).toInt := ⟨_, rfl⟩
    have bz10 : (-2147483648 : Int) ≤ z10 ∧ z10 ≤ 2147483647 := ez10 ▸ i32_rg _
    rw [show i32 ((F (p) (2 : Int) + 1)) = i32 z10 by rw [ez10, i32_of]]
    clear ez10
    refine cx_pi (pc_q := 27) (c := 7) (q := 2) (qi := (2 : Int)) (z := z10) rfl rfl (by decide) (by decide) rfl rfl rfl (by decide) rfl o_p t_p rfl ?_
    obtain ⟨F11, eF11⟩ : ∃ q, q = uF F6 (p) (2 : Int) (z10) := ⟨_, rfl⟩
    rw [← eF11]
    have hC12 : HC 0 m tg ln F11 := by rw [eF11]; exact HC_fi (c := 7) (q := 2) hC7 t_p (by decide) rfl (by omega) (by omega) ⟨fun w => absurd w (by decide), fun w => absurd w (by decide)⟩
    have hM13 : Fq 0 [(8, 2), (8, 4), (8, 8)] m tg F F11 := by rw [eF11]; exact Fq_p hM8 t_p (fun _ => rfl) rfl
    refine jx_ld (pc_q := 28) (l_q := L0) (st_q := [rv (ch)]) rfl (jl_rvn g3) ?_
    refine jx_rt (v := some (rv (ch))) rfl rfl rfl rfl rfl jr_are ?_
    exact ⟨z10, by omega, rfl, Or.inr ⟨by omega, by rw [eF11, eF6]⟩⟩
  · have _q := h4
    refine jx_ld (pc_q := 5) (l_q := L0) (st_q := [rv (p)]) rfl (jl_rvn g1) ?_
    refine jx_ld (pc_q := 6) (l_q := L0) (st_q := [rv (ch), rv (p)]) rfl (jl_rvn g3) ?_
    refine cx_po (pc_q := 9) (c := 7) (q := 4) (qi := (4 : Int)) (z := ch) rfl rfl (by decide) (by decide) rfl rfl rfl (by decide) rfl o_p t_p rfl ?_
    obtain ⟨F14, eF14⟩ : ∃ q, q = uF F (p) (4 : Int) (ch) := ⟨_, rfl⟩
    rw [← eF14]
    have hC15 : HC 0 m tg ln F14 := by rw [eF14]; exact HC_fr (c := 7) (q := 4) (by decide) hC t_p (by decide) rfl (Or.inr ⟨o_ch, t_ch⟩) ⟨fun w => absurd w (by decide), fun w => absurd w (by decide)⟩
    have hM16 : Fq 0 [(8, 2), (8, 4), (8, 8)] m tg F F14 := by rw [eF14]; exact Fq_p hM0 t_p (fun _ => rfl) rfl
    refine jx_go (tg := 17) rfl rfl ?_
    refine jx_ld (pc_q := 18) (l_q := L0) (st_q := [rv (p)]) rfl (jl_rvn g1) ?_
    refine jx_ar (pc_q := 19) (st_q := [rv (p), rv (p)]) rfl rfl ja_dup rfl ?_
    refine cx_gi (pc_q := 22) (c := 7) (q := 2) (v := F (p) (2 : Int)) rfl rfl (by decide) (by decide) (Or.inl rfl) rfl o_p t_p (show F14 (p) (2 : Int) = F (p) (2 : Int) from by rw [eF14]; exact uF_j (by decide)) ?_
    have b17 : (-2147483648 : Int) ≤ F (p) (2 : Int) ∧ F (p) (2 : Int) ≤ 2147483647 := by have z := HC_i (c := 7) (q := 2) hC15 o_p t_p (by decide) rfl; rw [show F14 (p) ((2 : Nat) : Int) = F (p) (2 : Int) from (show F14 (p) (2 : Int) = F (p) (2 : Int) from by rw [eF14]; exact uF_j (by decide))] at z; exact z
    refine jx_ar (pc_q := 23) (st_q := [.int (i32 (1)), .int (i32 (F (p) (2 : Int))), rv (p)]) rfl rfl rfl rfl ?_
    refine jx_add (pc_q := 24) rfl rfl ?_
    obtain ⟨z18, ez18⟩ : ∃ q, q = (i32 ((F (p) (2 : Int) + 1))).toInt := ⟨_, rfl⟩
    have bz18 : (-2147483648 : Int) ≤ z18 ∧ z18 ≤ 2147483647 := ez18 ▸ i32_rg _
    rw [show i32 ((F (p) (2 : Int) + 1)) = i32 z18 by rw [ez18, i32_of]]
    clear ez18
    refine cx_pi (pc_q := 27) (c := 7) (q := 2) (qi := (2 : Int)) (z := z18) rfl rfl (by decide) (by decide) rfl rfl rfl (by decide) rfl o_p t_p rfl ?_
    obtain ⟨F19, eF19⟩ : ∃ q, q = uF F14 (p) (2 : Int) (z18) := ⟨_, rfl⟩
    rw [← eF19]
    have hC20 : HC 0 m tg ln F19 := by rw [eF19]; exact HC_fi (c := 7) (q := 2) hC15 t_p (by decide) rfl (by omega) (by omega) ⟨fun w => absurd w (by decide), fun w => absurd w (by decide)⟩
    have hM21 : Fq 0 [(8, 2), (8, 4), (8, 8)] m tg F F19 := by rw [eF19]; exact Fq_p hM16 t_p (fun _ => rfl) rfl
    refine jx_ld (pc_q := 28) (l_q := L0) (st_q := [rv (ch)]) rfl (jl_rvn g3) ?_
    refine jx_rt (v := some (rv (ch))) rfl rfl rfl rfl rfl jr_are ?_
    exact ⟨z18, by omega, rfl, Or.inl ⟨by omega, by rw [eF19, eF14]⟩⟩
set_option maxRecDepth 20000 in
set_option maxHeartbeats 4000000 in
theorem k_LParser_readTarget {X : jX} {dd : Nat} {R : Nat → jC} {m : Nat} {tg ln : Int → Int} {F : Int → Int → Int} {me : Int} (hd : 60 ≤ dd) (hC : HC 0 m tg ln F) {sc pg : Int} (o_sc : own m sc) (t_sc : tg sc = 11) (e_sc : F me (1 : Int) = sc) (o_pg : own m pg) (t_pg : tg pg = 10) (e_pg : F me (0 : Int) = pg) (o_me : own m me) (t_me : tg me = 9) (p_0 : F sc (8 : Int) + 2 * tz (F sc (15 : Int)) ≤ F sc (7 : Int) + 1) (p_1 : F sc (8 : Int) + 2 * lz (F sc (14 : Int)) ≤ F sc (7 : Int) + 1) (p_2 : F sc (8 : Int) ≤ F sc (7 : Int)) (p_3 : tz (F sc (15 : Int)) = 1) (c_NP : NP m tg F) : wk X dd 197 [rv me] (cV R m tg ln F) (fun o V_q => (∃ (m_q : Nat) (tg_q ln_q : Int → Int) (F_q : Int → Int → Int) (r : Int), V_q = cV R m_q tg_q ln_q F_q ∧ o = .inl (some (rv r)) ∧ Ex m tg ln m_q tg_q ln_q ∧ HC 0 m_q tg_q ln_q F_q ∧ Fq 0 [(9, 3), (10, 0), (10, 1), (10, 2), (10, 9), (11, 8), (11, 12), (11, 13), (11, 14), (11, 15), (11, 16), (11, 17), (11, 18)] m tg F F_q ∧ (own m_q r ∧ tg_q r = 8) ∧ (F_q sc (8 : Int) + 2 * tz (F_q sc (15 : Int)) ≤ F sc (7 : Int) + 1) ∧ (F_q sc (8 : Int) + 2 * lz (F_q sc (14 : Int)) ≤ F sc (7 : Int) + 1) ∧ (F_q sc (8 : Int) ≤ F sc (7 : Int)) ∧ (F sc (8 : Int) ≤ F_q sc (8 : Int)) ∧ (szD m_q tg_q ln_q = szD m tg ln + 25 * ((m_q : Int) - (m : Int))) ∧ ((m_q : Int) ≤ (m : Int) + (F_q sc (8 : Int) - F sc (8 : Int)) + (-1)) ∧ (F_q pg (9 : Int) ≤ F pg (9 : Int) + ((m_q : Int) - (m : Int))) ∧ (64 + (m : Int) ≤ r) ∧ (WK F_q r (18 - 2 * F me (3 : Int))) ∧ (20 ≤ F_q r (0 : Int)) ∧ (F_q me (3 : Int) = F me (3 : Int)) ∧ (F_q r (3 : Int) ≠ 0) ∧ (NP m_q tg_q F_q) ∧ (NM m m_q tg_q) ∧ True) ∨ (∃ (m_q : Nat) (tg_q ln_q : Int → Int) (F_q : Int → Int → Int) (x : Nat), V_q = cV R m_q tg_q ln_q F_q ∧ o = .inr x ∧ Ex m tg ln m_q tg_q ln_q ∧ HC 0 m_q tg_q ln_q F_q ∧ Fq 0 [(9, 3), (10, 0), (10, 1), (10, 2), (10, 9), (11, 8), (11, 12), (11, 13), (11, 14), (11, 15), (11, 16), (11, 17), (11, 18)] m tg F F_q ∧ (own m_q (x : Int)) ∧ (tg_q (x : Int) = 16) ∧ (F_q pg (0 : Int) ≠ 0) ∧ (szD m_q tg_q ln_q = szD m tg ln + 25 * ((m_q : Int) - (m : Int))) ∧ ((m_q : Int) ≤ (m : Int) + (F_q sc (8 : Int) - F sc (8 : Int)) + (1)) ∧ (F_q sc (8 : Int) ≤ F sc (7 : Int) + 1) ∧ (NP m_q tg_q F_q) ∧ (NM m m_q tg_q) ∧ True)) := by
  obtain ⟨d, rfl⟩ : ∃ d, dd = d + 1 := ⟨dd - 1, by omega⟩
  refine wk_of (e := jm197) rfl (by rw [jS_r, jS_0]; exact Nat.le_of_ble_eq_true rfl) ?_
  rw [la_r, la_0]
  show wj X d jm197 (0, [(0, rv (me))], [], cV R m tg ln F) _
  have hM0 : Fq 0 [(9, 3), (10, 0), (10, 1), (10, 2), (10, 9), (11, 8), (11, 12), (11, 13), (11, 14), (11, 15), (11, 16), (11, 17), (11, 18)] m tg F F := Fq_r
  have hX0 : Ex m tg ln m tg ln := Ex_r
  obtain ⟨L0, eL0⟩ : ∃ q : jL, q = [(0, rv (me))] := ⟨_, rfl⟩
  rw [← eL0]
  have g1 : jGet L0 0 = some (rv (me)) := eL0 ▸ (rfl : jGet [(0, rv (me))] 0 = some (rv (me)))
  clear eL0
  have tb0 := tz_b (F sc (15 : Int))
  have lb0 := lz_b (F sc (14 : Int))
  have ob0 : (0 : Int) ≤ F me (3 : Int) ∧ F me (3 : Int) ≤ 8 := HC_i (c := 8) (q := 3) hC o_me t_me (by decide) rfl
  have tp0 : F me (2 : Int) < 64 + (m : Int) := by
    have z : F me (2 : Int) = 0 ∨ (own m (F me (2 : Int)) ∧ tg (F me (2 : Int)) = 7) := HC_r (c := 8) (q := 2) hC o_me t_me (by decide) rfl
    rcases z with w | w
    · omega
    · exact w.1.2.1
  refine jx_ld (pc_q := 1) (l_q := L0) (st_q := [rv (me)]) rfl (jl_rvn g1) ?_
  refine cx_gr (pc_q := 4) (c := 8) (q := 1) (v := sc) rfl rfl (by decide) (by decide) rfl rfl o_me t_me e_sc ?_
  have q2 := tz_b (F (sc) (15 : Int))
  have q3 := lz_b (F (sc) (14 : Int))
  refine cx_vi (c := 10) (a := sc) (st := []) (as := []) rfl rfl rfl o_sc t_sc (by decide) rfl ⟨rfl, rfl, (Nat.le_of_ble_eq_true rfl)⟩ rfl (k_LScanner_next (dd := d) (R := R) (m := m) (tg := tg) (ln := ln) (F := F) (me := sc) (hd := by omega) (hC := hC) (o_me := o_sc) (t_me := t_sc) (p_0 := by omega) (p_1 := by omega)) (fun o V_q hq => ?_)
  obtain ⟨F4, rfl, rfl, hC5, hM6, p7, p8, p9, -⟩ := hq
  have hM10 : Fq 0 [(9, 3), (10, 0), (10, 1), (10, 2), (10, 9), (11, 8), (11, 12), (11, 13), (11, 14), (11, 15), (11, 16), (11, 17), (11, 18)] m tg F F4 := Fq_t (ln := ln) (ln1 := ln) hM0 hX0 hM6 (by decide) (Or.inl rfl)
  have c11 : NP m tg F4 := NP_q hC c_NP hM6 rfl rfl
  refine Or.inl ⟨rfl, ?_⟩
  refine jx_ld (pc_q := 8) (l_q := L0) (st_q := [rv (me)]) rfl (jl_rvn g1) ?_
  refine cx_gr (pc_q := 11) (c := 8) (q := 1) (v := sc) rfl rfl (by decide) (by decide) rfl rfl o_me t_me ((show F4 (me) (1 : Int) = F (me) (1 : Int) from hM6 _ _ o_me (own_z o_me) (by rw [t_me]; rfl)).trans e_sc) ?_
  refine cx_gi (pc_q := 14) (c := 10) (q := 15) (v := F4 (sc) (15 : Int)) rfl rfl (by decide) (by decide) (Or.inl rfl) rfl o_sc t_sc rfl ?_
  have b12 : (-2147483648 : Int) ≤ F4 (sc) (15 : Int) ∧ F4 (sc) (15 : Int) ≤ 2147483647 := by have z := HC_i (c := 10) (q := 15) hC5 o_sc t_sc (by decide) rfl; rw [show F4 (sc) ((15 : Nat) : Int) = F4 (sc) (15 : Int) from rfl] at z; exact z
  refine jx_ar (pc_q := 15) (st_q := [.int (i32 (2)), .int (i32 (F4 (sc) (15 : Int)))]) rfl rfl rfl rfl ?_
  refine jx_icmp_eq (pc_q := 18) (tg := 22) rfl rfl rfl (by omega) (by omega) (by decide) (by decide) (fun h13 => ?_) (fun h13 => ?_)
  · have _q := h13
    have t14 : tz (F4 (sc) (15 : Int)) = 1 := tz_p (by omega)
    refine jx_ld (pc_q := 23) (l_q := L0) (st_q := [rv (me)]) rfl (jl_rvn g1) ?_
    refine jx_ld (pc_q := 24) (l_q := L0) (st_q := [rv (me), rv (me)]) rfl (jl_rvn g1) ?_
    have q15 := tz_b (F4 (sc) (15 : Int))
    have q16 : F4 (sc) (7 : Int) = F (sc) (7 : Int) := (show F4 (sc) (7 : Int) = F (sc) (7 : Int) from hM6 _ _ o_sc (own_z o_sc) (by rw [t_sc]; rfl))
    have q17 := lz_b (F4 (sc) (14 : Int))
    have q18 : F4 (pg) (9 : Int) = F (pg) (9 : Int) := (show F4 (pg) (9 : Int) = F (pg) (9 : Int) from hM6 _ _ o_pg (own_z o_pg) (by rw [t_pg]; rfl))
    refine cx_vi (c := 8) (a := me) (st := [rv (me)]) (as := []) rfl rfl rfl o_me t_me (by decide) rfl ⟨rfl, rfl, (by rw [jS_r, jS_0]; exact Nat.le_of_ble_eq_true rfl)⟩ rfl (k_LParser_known (dd := d) (R := R) (m := m) (tg := tg) (ln := ln) (F := F4) (me := me) (hd := by omega) (hC := hC5) (o_me := o_me) (t_me := t_me) (sc := sc) (pg := pg) (o_sc := o_sc) (t_sc := t_sc) (e_sc := ((show F4 (me) (1 : Int) = F (me) (1 : Int) from hM6 _ _ o_me (own_z o_me) (by rw [t_me]; rfl)).trans e_sc)) (o_pg := o_pg) (t_pg := t_pg) (e_pg := ((show F4 (me) (0 : Int) = F (me) (0 : Int) from hM6 _ _ o_me (own_z o_me) (by rw [t_me]; rfl)).trans e_pg)) (p_0 := by omega) (p_1 := by omega) (p_2 := by omega) (c_NP := c11)) (fun o V_q hq => ?_)
    obtain ⟨m19, tg19, ln19, F20, r21, rfl, rfl, hx22, hC23, hM24, b25, p26, p27, p28, p29, p30, p31, p32, c33, c34, -⟩ | ⟨m35, tg35, ln35, F35, x35, rfl, rfl, hx35, hC35, hM35, ho35, ht35, p36, p37, p38, p39, c40, c41, -⟩ := hq
    rotate_left
    ·
      have c42 : NM m m35 tg35 := NM_t NM_0 hx35 c41
      have lm43 := hx35.1
      refine Or.inr (Or.inr (Or.inr ⟨_, _, rfl, cx_exc (c := 15) ho35 ht35 (by decide), rfl, ?_⟩))
      have q44 : F4 (sc) (7 : Int) = F (sc) (7 : Int) := q16
      exact Or.inr ⟨m35, tg35, ln35, F35, x35, rfl, rfl, Ex_t hX0 hx35, hC35, Fq_t (ln := ln) (ln1 := ln) hM10 hX0 hM35 (by decide) (Or.inl rfl), (And.intro ho35 ht35).1, (And.intro ho35 ht35).2, by omega, by omega, by omega, by omega, c40, c42, trivial⟩
    have hM45 : Fq 0 [(9, 3), (10, 0), (10, 1), (10, 2), (10, 9), (11, 8), (11, 12), (11, 13), (11, 14), (11, 15), (11, 16), (11, 17), (11, 18)] m tg F F20 := Fq_t (ln := ln) (ln1 := ln) hM10 hX0 hM24 (by decide) (Or.inl rfl)
    have lm46 := hx22.1
    have ho47 : own m19 (me) ∧ tg19 (me) = 9 := Ex_o hx22 ⟨o_me, t_me⟩
    have ho48 : own m19 (sc) ∧ tg19 (sc) = 11 := Ex_o hx22 ⟨o_sc, t_sc⟩
    have ho49 : own m19 (pg) ∧ tg19 (pg) = 10 := Ex_o hx22 ⟨o_pg, t_pg⟩
    have hX50 := Ex_t hX0 hx22
    have c51 : NM m m19 tg19 := NM_t NM_0 hx22 c34
    refine Or.inr (Or.inl ⟨_, rfl, ?_⟩)
    refine cx_vi (c := 6) (a := r21) (st := [rv (me)]) (as := []) rfl rfl rfl b25.1 b25.2 (by decide) rfl ⟨rfl, rfl, (by rw [jS_r, jS_0]; exact Nat.le_of_ble_eq_true rfl)⟩ rfl (k_LName_isTarget (dd := d) (R := R) (m := m19) (tg := tg19) (ln := ln19) (F := F20) (me := r21) (hd := by omega) (hC := hC23) (o_me := b25.1) (t_me := b25.2)) (fun o V_q hq => ?_)
    obtain ⟨r52, rfl, rfl, b53, -⟩ := hq
    refine Or.inr (Or.inl ⟨_, rfl, ?_⟩)
    have b54 : (0 : Int) ≤ F (me) (3 : Int) ∧ F (me) (3 : Int) ≤ 8 := by have z := HC_i (c := 8) (q := 3) hC23 ho47.1 ho47.2 (by decide) rfl; rw [show F20 (me) ((3 : Nat) : Int) = F (me) (3 : Int) from ((show F20 (me) (3 : Int) = F4 (me) (3 : Int) from hM24 _ _ o_me (own_z o_me) (by rw [t_me]; rfl)).trans (show F4 (me) (3 : Int) = F (me) (3 : Int) from hM6 _ _ o_me (own_z o_me) (by rw [t_me]; rfl)))] at z; exact z
    have q55 : F20 (sc) (8 : Int) = F4 (sc) (8 : Int) := (show F20 (sc) (8 : Int) = F4 (sc) (8 : Int) from hM24 _ _ o_sc (own_z o_sc) (by rw [t_sc]; rfl))
    have q56 : F20 (sc) (15 : Int) = F4 (sc) (15 : Int) := (show F20 (sc) (15 : Int) = F4 (sc) (15 : Int) from hM24 _ _ o_sc (own_z o_sc) (by rw [t_sc]; rfl))
    have q57 : tz (F20 (sc) (15 : Int)) = tz (F4 (sc) (15 : Int)) := by rw [q56]
    have q58 := tz_b (F4 (sc) (15 : Int))
    have q59 : F20 (sc) (7 : Int) = F (sc) (7 : Int) := ((show F20 (sc) (7 : Int) = F4 (sc) (7 : Int) from hM24 _ _ o_sc (own_z o_sc) (by rw [t_sc]; rfl)).trans q16)
    have q60 : F20 (sc) (14 : Int) = F4 (sc) (14 : Int) := (show F20 (sc) (14 : Int) = F4 (sc) (14 : Int) from hM24 _ _ o_sc (own_z o_sc) (by rw [t_sc]; rfl))
    have q61 : lz (F20 (sc) (14 : Int)) = lz (F4 (sc) (14 : Int)) := by rw [q60]
    have q62 := lz_b (F4 (sc) (14 : Int))
    have q63 : F20 (me) (3 : Int) = F (me) (3 : Int) := ((show F20 (me) (3 : Int) = F4 (me) (3 : Int) from hM24 _ _ o_me (own_z o_me) (by rw [t_me]; rfl)).trans (show F4 (me) (3 : Int) = F (me) (3 : Int) from hM6 _ _ o_me (own_z o_me) (by rw [t_me]; rfl)))
    have q64 : F20 (pg) (9 : Int) = F (pg) (9 : Int) := ((show F20 (pg) (9 : Int) = F4 (pg) (9 : Int) from hM24 _ _ o_pg (own_z o_pg) (by rw [t_pg]; rfl)).trans q18)
    refine cx_vi (c := 8) (a := me) (st := []) (as := [.int (i32 (r52))]) rfl rfl rfl ho47.1 ho47.2 (by decide) rfl ⟨rfl, rfl, (Nat.le_of_ble_eq_true rfl)⟩ rfl (k_LParser_judged (dd := d) (R := R) (m := m19) (tg := tg19) (ln := ln19) (F := F20) (kk := 9) (hE := fun _ => PEx_all X _) (me := me) (wa := r52) (hd := by omega) (hC := hC23) (o_me := ho47.1) (t_me := ho47.2) (h_wa := by omega) (sc := sc) (pg := pg) (o_sc := ho48.1) (t_sc := ho48.2) (e_sc := (((show F20 (me) (1 : Int) = F4 (me) (1 : Int) from hM24 _ _ o_me (own_z o_me) (by rw [t_me]; rfl)).trans (show F4 (me) (1 : Int) = F (me) (1 : Int) from hM6 _ _ o_me (own_z o_me) (by rw [t_me]; rfl))).trans e_sc)) (o_pg := ho49.1) (t_pg := ho49.2) (e_pg := (((show F20 (me) (0 : Int) = F4 (me) (0 : Int) from hM24 _ _ o_me (own_z o_me) (by rw [t_me]; rfl)).trans (show F4 (me) (0 : Int) = F (me) (0 : Int) from hM6 _ _ o_me (own_z o_me) (by rw [t_me]; rfl))).trans e_pg)) (p_0 := by omega) (p_1 := by omega) (p_2 := by omega) (p_3 := by omega) (p_4 := by omega) (c_NP := c33)) (fun o V_q hq => ?_)
    obtain ⟨m65, tg65, ln65, F66, r67, rfl, rfl, hx68, hC69, hM70, b71, p72, p73, p74, p75, p76, p77, p78, p79, p80, p81, p82, p83, c84, c85, -⟩ | ⟨m86, tg86, ln86, F86, x86, rfl, rfl, hx86, hC86, hM86, ho86, ht86, p87, p88, p89, p90, c91, c92, -⟩ := hq
    rotate_left
    ·
      have c93 : NM m m86 tg86 := NM_t c51 hx86 c92
      have lm94 := hx86.1
      refine Or.inr (Or.inr (Or.inr ⟨_, _, rfl, cx_exc (c := 15) ho86 ht86 (by decide), rfl, ?_⟩))
      have q95 : F20 (sc) (8 : Int) = F4 (sc) (8 : Int) := q55
      have q96 : F20 (sc) (7 : Int) = F (sc) (7 : Int) := q59
      exact Or.inr ⟨m86, tg86, ln86, F86, x86, rfl, rfl, Ex_t hX50 hx86, hC86, Fq_t (ln := ln) (ln1 := ln19) hM45 hX50 hM86 (by decide) (Or.inl rfl), (And.intro ho86 ht86).1, (And.intro ho86 ht86).2, by omega, by omega, by omega, by omega, c91, c93, trivial⟩
    have hM97 : Fq 0 [(9, 3), (10, 0), (10, 1), (10, 2), (10, 9), (11, 8), (11, 12), (11, 13), (11, 14), (11, 15), (11, 16), (11, 17), (11, 18)] m tg F F66 := Fq_t (ln := ln) (ln1 := ln19) hM45 hX50 hM70 (by decide) (Or.inl rfl)
    have lm98 := hx68.1
    have ho99 : own m65 (me) ∧ tg65 (me) = 9 := Ex_o hx68 ⟨ho47.1, ho47.2⟩
    have ho100 : own m65 (sc) ∧ tg65 (sc) = 11 := Ex_o hx68 ⟨ho48.1, ho48.2⟩
    have ho101 : own m65 (pg) ∧ tg65 (pg) = 10 := Ex_o hx68 ⟨ho49.1, ho49.2⟩
    have hX102 := Ex_t hX50 hx68
    have q103 := p80.1
    have q104 := p80.2.1
    have q105 := p80.2.2.1
    have c106 : NM m m65 tg65 := NM_t c51 hx68 c85
    refine Or.inr (Or.inl ⟨_, rfl, ?_⟩)
    refine jx_rt (v := some (rv (r67))) rfl rfl rfl rfl rfl jr_are ?_
    have q107 : F66 (sc) (7 : Int) = F (sc) (7 : Int) := ((show F66 (sc) (7 : Int) = F20 (sc) (7 : Int) from hM70 _ _ ho48.1 (own_z ho48.1) (by rw [ho48.2]; rfl)).trans q59)
    have q108 := tz_b (F66 (sc) (15 : Int))
    have q109 := lz_b (F66 (sc) (14 : Int))
    exact Or.inl ⟨m65, tg65, ln65, F66, (r67), rfl, rfl, hX102, hC69, hM97, ⟨b71.1, b71.2⟩, by omega, by omega, by omega, by omega, by omega, by omega, by omega, by omega, (WK_m p80 (by omega)), by omega, by omega, by omega, c84, c106, trivial⟩
  · have _q := h13
    refine jx_ld (pc_q := 19) (l_q := L0) (st_q := [rv (me)]) rfl (jl_rvn g1) ?_
    have q110 : F4 (sc) (7 : Int) = F (sc) (7 : Int) := (show F4 (sc) (7 : Int) = F (sc) (7 : Int) from hM6 _ _ o_sc (own_z o_sc) (by rw [t_sc]; rfl))
    refine cx_vi (c := 8) (a := me) (st := []) (as := []) rfl rfl rfl o_me t_me (by decide) rfl ⟨rfl, rfl, (Nat.le_of_ble_eq_true rfl)⟩ rfl (k_LParser_form (dd := d) (R := R) (m := m) (tg := tg) (ln := ln) (F := F4) (me := me) (hd := by omega) (hC := hC5) (o_me := o_me) (t_me := t_me) (sc := sc) (pg := pg) (o_sc := o_sc) (t_sc := t_sc) (e_sc := ((show F4 (me) (1 : Int) = F (me) (1 : Int) from hM6 _ _ o_me (own_z o_me) (by rw [t_me]; rfl)).trans e_sc)) (o_pg := o_pg) (t_pg := t_pg) (e_pg := ((show F4 (me) (0 : Int) = F (me) (0 : Int) from hM6 _ _ o_me (own_z o_me) (by rw [t_me]; rfl)).trans e_pg)) (p_0 := by omega) (c_NP := c11)) (fun o V_q hq => ?_)
    obtain ⟨m111, tg111, ln111, F112, rfl, rfl, hx113, hC114, hM115, p116, c117, c118, -⟩ | ⟨m119, tg119, ln119, F119, x119, rfl, rfl, hx119, hC119, hM119, ho119, ht119, p120, p121, p122, p123, c124, c125, -⟩ := hq
    rotate_left
    ·
      have c126 : NM m m119 tg119 := NM_t NM_0 hx119 c125
      have lm127 := hx119.1
      refine Or.inr (Or.inr (Or.inr ⟨_, _, rfl, cx_exc (c := 15) ho119 ht119 (by decide), rfl, ?_⟩))
      have q128 : F4 (sc) (7 : Int) = F (sc) (7 : Int) := q110
      exact Or.inr ⟨m119, tg119, ln119, F119, x119, rfl, rfl, Ex_t hX0 hx119, hC119, Fq_t (ln := ln) (ln1 := ln) hM10 hX0 hM119 (by decide) (Or.inl rfl), (And.intro ho119 ht119).1, (And.intro ho119 ht119).2, by omega, by omega, by omega, by omega, c124, c126, trivial⟩
    exact p116.elim
