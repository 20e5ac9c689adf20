set_option maxRecDepth 20000 in
set_option maxHeartbeats 4000000 in
theorem k_LParser_readGuard_at_122 {X : jX} {d : Nat} {R : Nat → jC} {m : Nat} {tg ln : Int → Int} {F : Int → Int → Int} {me gd : Int} (hd : 64 ≤ d + 1) (hC : HC 0 m tg ln F) {sc pg : Int} (o_sc : own m sc) (t_sc : tg sc = 11) (e_sc : F me (1 : Int) = sc) (o_pg : own m pg) (t_pg : tg pg = 10) (e_pg : F me (0 : Int) = pg) (o_me : own m me) (t_me : tg me = 9) (o_gd : own m gd) (t_gd : tg gd = 8) (p_0 : F sc (8 : Int) + 2 * tz (F sc (15 : Int)) ≤ F sc (7 : Int) + 1) (p_1 : F sc (8 : Int) + 2 * lz (F sc (14 : Int)) ≤ F sc (7 : Int) + 1) (p_2 : F sc (8 : Int) ≤ F sc (7 : Int)) (p_3 : F gd (0 : Int) = 15) (p_4 : F gd (4 : Int) = 0) (p_5 : F gd (5 : Int) = 0) (p_6 : F gd (6 : Int) = 0) (p_7 : F gd (7 : Int) = 0) (p_8 : F gd (8 : Int) = 0) (p_9 : F gd (101 : Int) = 0) (p_10 : F gd (103 : Int) = 0) (c_NP : NP m tg F) : ∀ (L : jL) (mx : Nat) (tgx lnx : Int → Int) (Fx : Int → Int → Int), jGet L 0 = some (rv (me)) → jGet L 1 = some (rv (gd)) → Ex m tg ln mx tgx lnx → HC 0 mx tgx lnx Fx → Fq gd [(9, 3), (10, 0), (10, 1), (10, 2), (10, 9), (11, 8), (11, 12), (11, 13), (11, 14), (11, 15), (11, 16), (11, 17), (11, 18)] m tg F Fx → (Fx sc (8 : Int) + 2 * tz (Fx sc (15 : Int)) ≤ F sc (7 : Int) + 1) → (Fx sc (8 : Int) + 2 * lz (Fx sc (14 : Int)) ≤ F sc (7 : Int) + 1) → (Fx sc (8 : Int) ≤ F sc (7 : Int)) → (Fx pg (9 : Int) ≤ F pg (9 : Int) + ((mx : Int) - (m : Int))) → (F sc (8 : Int) ≤ Fx sc (8 : Int)) → (szD mx tgx lnx = szD m tg ln + 25 * ((mx : Int) - (m : Int))) → ((mx : Int) ≤ (m : Int) + (Fx sc (8 : Int) - F sc (8 : Int)) + (0)) → (Fx gd (0 : Int) = 15) → (NP mx tgx Fx) → (NM m mx tgx) → (WK Fx gd (21)) → wj X d jm189 (122, L, [], cV R mx tgx lnx Fx) (fun o V_q => (∃ (m_q : Nat) (tg_q ln_q : Int → Int) (F_q : Int → Int → Int), V_q = cV R m_q tg_q ln_q F_q ∧ o = .inl none ∧ Ex m tg ln m_q tg_q ln_q ∧ HC 0 m_q tg_q ln_q F_q ∧ Fq gd [(9, 3), (10, 0), (10, 1), (10, 2), (10, 9), (11, 8), (11, 12), (11, 13), (11, 14), (11, 15), (11, 16), (11, 17), (11, 18)] m tg F F_q ∧ (F_q sc (8 : Int) + 2 * tz (F_q sc (15 : Int)) ≤ F sc (7 : Int) + 1) ∧ (F_q sc (8 : Int) + 2 * lz (F_q sc (14 : Int)) ≤ F sc (7 : Int) + 1) ∧ (F_q sc (8 : Int) ≤ F sc (7 : Int)) ∧ (F sc (8 : Int) ≤ F_q sc (8 : Int)) ∧ (szD m_q tg_q ln_q = szD m tg ln + 25 * ((m_q : Int) - (m : Int))) ∧ ((m_q : Int) ≤ (m : Int) + (F_q sc (8 : Int) - F sc (8 : Int)) + (0)) ∧ (F_q pg (9 : Int) ≤ F pg (9 : Int) + ((m_q : Int) - (m : Int))) ∧ (WK F_q gd (21)) ∧ (F_q gd (0 : Int) = 15) ∧ (NP m_q tg_q F_q) ∧ (NM m m_q tg_q) ∧ True) ∨ (∃ (m_q : Nat) (tg_q ln_q : Int → Int) (F_q : Int → Int → Int) (x : Nat), V_q = cV R m_q tg_q ln_q F_q ∧ o = .inr x ∧ Ex m tg ln m_q tg_q ln_q ∧ HC 0 m_q tg_q ln_q F_q ∧ Fq gd [(9, 3), (10, 0), (10, 1), (10, 2), (10, 9), (11, 8), (11, 12), (11, 13), (11, 14), (11, 15), (11, 16), (11, 17), (11, 18)] m tg F F_q ∧ (own m_q (x : Int)) ∧ (tg_q (x : Int) = 16) ∧ (F_q pg (0 : Int) ≠ 0) ∧ (szD m_q tg_q ln_q = szD m tg ln + 25 * ((m_q : Int) - (m : Int))) ∧ ((m_q : Int) ≤ (m : Int) + (F_q sc (8 : Int) - F sc (8 : Int)) + (1)) ∧ (F_q sc (8 : Int) ≤ F sc (7 : Int) + 1) ∧ (NP m_q tg_q F_q) ∧ (NM m m_q tg_q) ∧ True)) := by
  intro L mx tgx lnx Fx gL_0 gL_1 hXx hCx hMx iv_0 iv_1 iv_2 iv_3 iv_4 iv_5 iv_6 iv_7 cx_NP cx_NM wx_gd
  have hX0 : Ex m tg ln m tg ln := Ex_r
  have lm1 := hXx.1
  have lt2 : gd < 64 + (m : Int) := o_gd.2.1
  have ho3 : own mx (me) ∧ tgx (me) = 9 := Ex_o hXx ⟨o_me, t_me⟩
  have ho4 : own mx (gd) ∧ tgx (gd) = 8 := Ex_o hXx ⟨o_gd, t_gd⟩
  have ho5 : own mx (sc) ∧ tgx (sc) = 11 := Ex_o hXx ⟨o_sc, t_sc⟩
  have ho6 : own mx (pg) ∧ tgx (pg) = 10 := Ex_o hXx ⟨o_pg, t_pg⟩
  have hX7 := Ex_t hX0 hXx
  have tb0 := tz_b (F sc (15 : Int))
  have lb0 := lz_b (F sc (14 : Int))
  have tb1 := tz_b (Fx sc (15 : Int))
  have lb1 := lz_b (Fx sc (14 : Int))
  have ob0 : (0 : Int) ≤ F me (3 : Int) ∧ F me (3 : Int) ≤ 8 := HC_i (c := 8) (q := 3) hC o_me t_me (by decide) rfl
  have tp0 : F me (2 : Int) < 64 + (m : Int) := by
    have z : F me (2 : Int) = 0 ∨ (own m (F me (2 : Int)) ∧ tg (F me (2 : Int)) = 7) := HC_r (c := 8) (q := 2) hC o_me t_me (by decide) rfl
    rcases z with w | w
    · omega
    · exact w.1.2.1
  have nz_gd := own_z o_gd
  have q8 := wx_gd.1
  have q9 := wx_gd.2.1
  have q10 := wx_gd.2.2.1
  refine jx_ld (pc_q := 123) (l_q := L) (st_q := [rv (me)]) rfl (jl_rvn gL_0) ?_
  refine jx_ar (pc_q := 125) (st_q := [.int (i32 (66)), rv (me)]) rfl rfl rfl rfl ?_
  have q11 := tz_b (Fx (sc) (15 : Int))
  have q12 : Fx (sc) (7 : Int) = F (sc) (7 : Int) := (show Fx (sc) (7 : Int) = F (sc) (7 : Int) from hMx _ _ o_sc (fun w => by have q1 := ho5.2; rw [w, ho4.2] at q1; exact absurd q1 (by decide)) (by rw [t_sc]; rfl))
  have q13 := lz_b (Fx (sc) (14 : Int))
  refine cx_vi (c := 8) (a := me) (st := []) (as := [.int (i32 (66))]) rfl rfl rfl ho3.1 ho3.2 (by decide) rfl ⟨rfl, rfl, (Nat.le_of_ble_eq_true rfl)⟩ rfl (k_LParser_expect (dd := d) (R := R) (m := mx) (tg := tgx) (ln := lnx) (F := Fx) (me := me) (tk := 66) (hd := by omega) (hC := hCx) (o_me := ho3.1) (t_me := ho3.2) (h_tk := by omega) (sc := sc) (pg := pg) (o_sc := ho5.1) (t_sc := ho5.2) (e_sc := ((show Fx (me) (1 : Int) = F (me) (1 : Int) from hMx _ _ o_me (fun w => by have q1 := ho3.2; rw [w, ho4.2] at q1; exact absurd q1 (by decide)) (by rw [t_me]; rfl)).trans e_sc)) (o_pg := ho6.1) (t_pg := ho6.2) (e_pg := ((show Fx (me) (0 : Int) = F (me) (0 : Int) from hMx _ _ o_me (fun w => by have q1 := ho3.2; rw [w, ho4.2] at q1; exact absurd q1 (by decide)) (by rw [t_me]; rfl)).trans e_pg)) (p_0 := by omega) (p_1 := by omega) (p_2 := by omega) (p_3 := by omega) (c_NP := cx_NP)) (fun o V_q hq => ?_)
  obtain ⟨m14, tg14, ln14, F15, rfl, rfl, hx16, hC17, hM18, p19, p20, p21, p22, p23, p24, p25, c26, c27, -⟩ | ⟨m28, tg28, ln28, F28, x28, rfl, rfl, hx28, hC28, hM28, ho28, ht28, p29, p30, p31, p32, c33, c34, -⟩ := hq
  rotate_left
  ·
    have c35 : NM m m28 tg28 := NM_t cx_NM hx28 c34
    have lm36 := hx28.1
    refine Or.inr (Or.inr (Or.inr ⟨_, _, rfl, cx_exc (c := 15) ho28 ht28 (by decide), rfl, ?_⟩))
    have q37 : Fx (sc) (7 : Int) = F (sc) (7 : Int) := (show Fx (sc) (7 : Int) = F (sc) (7 : Int) from hMx _ _ o_sc (fun w => by have q1 := ho5.2; rw [w, ho4.2] at q1; exact absurd q1 (by decide)) (by rw [t_sc]; rfl))
    exact Or.inr ⟨m28, tg28, ln28, F28, x28, rfl, rfl, Ex_t hXx hx28, hC28, Fq_t (ln := ln) (ln1 := lnx) hMx hXx hM28 (by decide) (Or.inr (Or.inl rfl)), (And.intro ho28 ht28).1, (And.intro ho28 ht28).2, by omega, by omega, by omega, by omega, c33, c35, trivial⟩
  have hM38 : Fq gd [(9, 3), (10, 0), (10, 1), (10, 2), (10, 9), (11, 8), (11, 12), (11, 13), (11, 14), (11, 15), (11, 16), (11, 17), (11, 18)] m tg F F15 := Fq_t (ln := ln) (ln1 := lnx) hMx hXx hM18 (by decide) (Or.inr (Or.inl rfl))
  have lm39 := hx16.1
  have lt40 : gd < 64 + (mx : Int) := ho4.1.2.1
  have ho41 : own m14 (me) ∧ tg14 (me) = 9 := Ex_o hx16 ⟨ho3.1, ho3.2⟩
  have ho42 : own m14 (gd) ∧ tg14 (gd) = 8 := Ex_o hx16 ⟨ho4.1, ho4.2⟩
  have ho43 : own m14 (sc) ∧ tg14 (sc) = 11 := Ex_o hx16 ⟨ho5.1, ho5.2⟩
  have ho44 : own m14 (pg) ∧ tg14 (pg) = 10 := Ex_o hx16 ⟨ho6.1, ho6.2⟩
  have hX45 := Ex_t hXx hx16
  have w46 : WK F15 gd (21) := WK_q wx_gd hCx ho4.1 ho4.2 hM18 rfl
  have c47 : NM m m14 tg14 := NM_t cx_NM hx16 c27
  refine Or.inl ⟨rfl, ?_⟩
  refine jx_ld (pc_q := 129) (l_q := L) (st_q := [rv (me)]) rfl (jl_rvn gL_0) ?_
  refine cx_gr (pc_q := 132) (c := 8) (q := 1) (v := sc) rfl rfl (by decide) (by decide) rfl rfl ho41.1 ho41.2 (((show F15 (me) (1 : Int) = Fx (me) (1 : Int) from hM18 _ _ ho3.1 (own_z ho3.1) (by rw [ho3.2]; rfl)).trans (show Fx (me) (1 : Int) = F (me) (1 : Int) from hMx _ _ o_me (fun w => by have q1 := ho41.2; rw [w, ho42.2] at q1; exact absurd q1 (by decide)) (by rw [t_me]; rfl))).trans e_sc) ?_
  refine cx_gi (pc_q := 135) (c := 10) (q := 15) (v := F15 (sc) (15 : Int)) rfl rfl (by decide) (by decide) (Or.inl rfl) rfl ho43.1 ho43.2 rfl ?_
  have b48 : (-2147483648 : Int) ≤ F15 (sc) (15 : Int) ∧ F15 (sc) (15 : Int) ≤ 2147483647 := by have z := HC_i (c := 10) (q := 15) hC17 ho43.1 ho43.2 (by decide) rfl; rw [show F15 (sc) ((15 : Nat) : Int) = F15 (sc) (15 : Int) from rfl] at z; exact z
  refine jx_ar (pc_q := 137) (st_q := [.int (i32 (16)), .int (i32 (F15 (sc) (15 : Int)))]) rfl rfl rfl rfl ?_
  refine jx_icmp_ne (pc_q := 140) (tg := 148) rfl rfl rfl (by omega) (by omega) (by decide) (by decide) (fun h49 => ?_) (fun h49 => ?_)
  · have _q := h49
    refine jx_ld (pc_q := 149) (l_q := L) (st_q := [rv (me)]) rfl (jl_rvn gL_0) ?_
    refine cx_gr (pc_q := 152) (c := 8) (q := 1) (v := sc) rfl rfl (by decide) (by decide) rfl rfl ho41.1 ho41.2 (((show F15 (me) (1 : Int) = Fx (me) (1 : Int) from hM18 _ _ ho3.1 (own_z ho3.1) (by rw [ho3.2]; rfl)).trans (show Fx (me) (1 : Int) = F (me) (1 : Int) from hMx _ _ o_me (fun w => by have q1 := ho41.2; rw [w, ho42.2] at q1; exact absurd q1 (by decide)) (by rw [t_me]; rfl))).trans e_sc) ?_
    refine cx_gi (pc_q := 155) (c := 10) (q := 15) (v := F15 (sc) (15 : Int)) rfl rfl (by decide) (by decide) (Or.inl rfl) rfl ho43.1 ho43.2 rfl ?_
    refine jx_ar (pc_q := 156) (st_q := [.int (i32 (2)), .int (i32 (F15 (sc) (15 : Int)))]) rfl rfl rfl rfl ?_
    refine jx_icmp_eq (pc_q := 159) (tg := 163) rfl rfl rfl (by omega) (by omega) (by decide) (by decide) (fun h50 => ?_) (fun h50 => ?_)
    · have _q := h50
      have t51 : tz (F15 (sc) (15 : Int)) = 1 := tz_p (by omega)
      refine jx_ld (pc_q := 164) (l_q := L) (st_q := [rv (gd)]) rfl (jl_rvn gL_1) ?_
      refine jx_ld (pc_q := 165) (l_q := L) (st_q := [rv (me), rv (gd)]) rfl (jl_rvn gL_0) ?_
      refine jx_ld (pc_q := 166) (l_q := L) (st_q := [rv (me), rv (me), rv (gd)]) rfl (jl_rvn gL_0) ?_
      have q52 := tz_b (F15 (sc) (15 : Int))
      have q53 : F15 (sc) (7 : Int) = F (sc) (7 : Int) := ((show F15 (sc) (7 : Int) = Fx (sc) (7 : Int) from hM18 _ _ ho5.1 (own_z ho5.1) (by rw [ho5.2]; rfl)).trans (show Fx (sc) (7 : Int) = F (sc) (7 : Int) from hMx _ _ o_sc (fun w => by have q1 := ho43.2; rw [w, ho42.2] at q1; exact absurd q1 (by decide)) (by rw [t_sc]; rfl)))
      have q54 := lz_b (F15 (sc) (14 : Int))
      have q55 : F15 (pg) (9 : Int) = Fx (pg) (9 : Int) := (show F15 (pg) (9 : Int) = Fx (pg) (9 : Int) from hM18 _ _ ho6.1 (own_z ho6.1) (by rw [ho6.2]; rfl))
      refine cx_vi (c := 8) (a := me) (st := [rv (me), rv (gd)]) (as := []) rfl rfl rfl ho41.1 ho41.2 (by decide) rfl ⟨rfl, rfl, (by rw [jS_r, jS_r, jS_0]; exact Nat.le_of_ble_eq_true rfl)⟩ rfl (k_LParser_known (dd := d) (R := R) (m := m14) (tg := tg14) (ln := ln14) (F := F15) (me := me) (hd := by omega) (hC := hC17) (o_me := ho41.1) (t_me := ho41.2) (sc := sc) (pg := pg) (o_sc := ho43.1) (t_sc := ho43.2) (e_sc := (((show F15 (me) (1 : Int) = Fx (me) (1 : Int) from hM18 _ _ ho3.1 (own_z ho3.1) (by rw [ho3.2]; rfl)).trans (show Fx (me) (1 : Int) = F (me) (1 : Int) from hMx _ _ o_me (fun w => by have q1 := ho41.2; rw [w, ho42.2] at q1; exact absurd q1 (by decide)) (by rw [t_me]; rfl))).trans e_sc)) (o_pg := ho44.1) (t_pg := ho44.2) (e_pg := (((show F15 (me) (0 : Int) = Fx (me) (0 : Int) from hM18 _ _ ho3.1 (own_z ho3.1) (by rw [ho3.2]; rfl)).trans (show Fx (me) (0 : Int) = F (me) (0 : Int) from hMx _ _ o_me (fun w => by have q1 := ho41.2; rw [w, ho42.2] at q1; exact absurd q1 (by decide)) (by rw [t_me]; rfl))).trans e_pg)) (p_0 := by omega) (p_1 := by omega) (p_2 := by omega) (c_NP := c26)) (fun o V_q hq => ?_)
      obtain ⟨m56, tg56, ln56, F57, r58, rfl, rfl, hx59, hC60, hM61, b62, p63, p64, p65, p66, p67, p68, p69, c70, c71, -⟩ | ⟨m72, tg72, ln72, F72, x72, rfl, rfl, hx72, hC72, hM72, ho72, ht72, p73, p74, p75, p76, c77, c78, -⟩ := hq
      rotate_left
      ·
        have c79 : NM m m72 tg72 := NM_t c47 hx72 c78
        have lm80 := hx72.1
        refine Or.inr (Or.inr (Or.inr ⟨_, _, rfl, cx_exc (c := 15) ho72 ht72 (by decide), rfl, ?_⟩))
        have q81 : F15 (sc) (7 : Int) = F (sc) (7 : Int) := q53
        exact Or.inr ⟨m72, tg72, ln72, F72, x72, rfl, rfl, Ex_t hX45 hx72, hC72, Fq_t (ln := ln) (ln1 := ln14) hM38 hX45 hM72 (by decide) (Or.inr (Or.inl rfl)), (And.intro ho72 ht72).1, (And.intro ho72 ht72).2, by omega, by omega, by omega, by omega, c77, c79, trivial⟩
      have hM82 : Fq gd [(9, 3), (10, 0), (10, 1), (10, 2), (10, 9), (11, 8), (11, 12), (11, 13), (11, 14), (11, 15), (11, 16), (11, 17), (11, 18)] m tg F F57 := Fq_t (ln := ln) (ln1 := ln14) hM38 hX45 hM61 (by decide) (Or.inr (Or.inl rfl))
      have lm83 := hx59.1
      have lt84 : gd < 64 + (m14 : Int) := ho42.1.2.1
      have ho85 : own m56 (me) ∧ tg56 (me) = 9 := Ex_o hx59 ⟨ho41.1, ho41.2⟩
      have ho86 : own m56 (gd) ∧ tg56 (gd) = 8 := Ex_o hx59 ⟨ho42.1, ho42.2⟩
      have ho87 : own m56 (sc) ∧ tg56 (sc) = 11 := Ex_o hx59 ⟨ho43.1, ho43.2⟩
      have ho88 : own m56 (pg) ∧ tg56 (pg) = 10 := Ex_o hx59 ⟨ho44.1, ho44.2⟩
      have hX89 := Ex_t hX45 hx59
      have w90 : WK F57 gd (21) := WK_q w46 hC17 ho42.1 ho42.2 hM61 rfl
      have c91 : NM m m56 tg56 := NM_t c47 hx59 c71
      refine Or.inr (Or.inl ⟨_, rfl, ?_⟩)
      refine cx_vi (c := 6) (a := r58) (st := [rv (me), rv (gd)]) (as := []) rfl rfl rfl b62.1 b62.2 (by decide) rfl ⟨rfl, rfl, (by rw [jS_r, jS_r, jS_0]; exact Nat.le_of_ble_eq_true rfl)⟩ rfl (k_LName_isChannel (dd := d) (R := R) (m := m56) (tg := tg56) (ln := ln56) (F := F57) (me := r58) (hd := by omega) (hC := hC60) (o_me := b62.1) (t_me := b62.2)) (fun o V_q hq => ?_)
      obtain ⟨r92, rfl, rfl, b93, -⟩ := hq
      refine Or.inr (Or.inl ⟨_, rfl, ?_⟩)
      have b94 : (0 : Int) ≤ Fx (me) (3 : Int) ∧ Fx (me) (3 : Int) ≤ 8 := by have z := HC_i (c := 8) (q := 3) hC60 ho85.1 ho85.2 (by decide) rfl; rw [show F57 (me) ((3 : Nat) : Int) = Fx (me) (3 : Int) from ((show F57 (me) (3 : Int) = F15 (me) (3 : Int) from hM61 _ _ ho41.1 (own_z ho41.1) (by rw [ho41.2]; rfl)).trans (show F15 (me) (3 : Int) = Fx (me) (3 : Int) from hM18 _ _ ho3.1 (own_z ho3.1) (by rw [ho3.2]; rfl)))] at z; exact z
      have q95 : F57 (sc) (8 : Int) = F15 (sc) (8 : Int) := (show F57 (sc) (8 : Int) = F15 (sc) (8 : Int) from hM61 _ _ ho43.1 (own_z ho43.1) (by rw [ho43.2]; rfl))
      have q96 : F57 (sc) (15 : Int) = F15 (sc) (15 : Int) := (show F57 (sc) (15 : Int) = F15 (sc) (15 : Int) from hM61 _ _ ho43.1 (own_z ho43.1) (by rw [ho43.2]; rfl))
      have q97 : tz (F57 (sc) (15 : Int)) = tz (F15 (sc) (15 : Int)) := by rw [q96]
      have q98 := tz_b (F15 (sc) (15 : Int))
      have q99 : F57 (sc) (7 : Int) = F (sc) (7 : Int) := ((show F57 (sc) (7 : Int) = F15 (sc) (7 : Int) from hM61 _ _ ho43.1 (own_z ho43.1) (by rw [ho43.2]; rfl)).trans q53)
      have q100 : F57 (sc) (14 : Int) = F15 (sc) (14 : Int) := (show F57 (sc) (14 : Int) = F15 (sc) (14 : Int) from hM61 _ _ ho43.1 (own_z ho43.1) (by rw [ho43.2]; rfl))
      have q101 : lz (F57 (sc) (14 : Int)) = lz (F15 (sc) (14 : Int)) := by rw [q100]
      have q102 := lz_b (F15 (sc) (14 : Int))
      have q103 : F57 (me) (3 : Int) = Fx (me) (3 : Int) := ((show F57 (me) (3 : Int) = F15 (me) (3 : Int) from hM61 _ _ ho41.1 (own_z ho41.1) (by rw [ho41.2]; rfl)).trans (show F15 (me) (3 : Int) = Fx (me) (3 : Int) from hM18 _ _ ho3.1 (own_z ho3.1) (by rw [ho3.2]; rfl)))
      have q104 : F57 (pg) (9 : Int) = Fx (pg) (9 : Int) := ((show F57 (pg) (9 : Int) = F15 (pg) (9 : Int) from hM61 _ _ ho44.1 (own_z ho44.1) (by rw [ho44.2]; rfl)).trans q55)
      refine cx_vi (c := 8) (a := me) (st := [rv (gd)]) (as := [.int (i32 (r92))]) rfl rfl rfl ho85.1 ho85.2 (by decide) rfl ⟨rfl, rfl, (by rw [jS_r, jS_0]; exact Nat.le_of_ble_eq_true rfl)⟩ rfl (k_LParser_judged (dd := d) (R := R) (m := m56) (tg := tg56) (ln := ln56) (F := F57) (kk := 9) (hE := fun _ => PEx_all X _) (me := me) (wa := r92) (hd := by omega) (hC := hC60) (o_me := ho85.1) (t_me := ho85.2) (h_wa := by omega) (sc := sc) (pg := pg) (o_sc := ho87.1) (t_sc := ho87.2) (e_sc := (((show F57 (me) (1 : Int) = F15 (me) (1 : Int) from hM61 _ _ ho41.1 (own_z ho41.1) (by rw [ho41.2]; rfl)).trans ((show F15 (me) (1 : Int) = Fx (me) (1 : Int) from hM18 _ _ ho3.1 (own_z ho3.1) (by rw [ho3.2]; rfl)).trans (show Fx (me) (1 : Int) = F (me) (1 : Int) from hMx _ _ o_me (fun w => by have q1 := ho85.2; rw [w, ho86.2] at q1; exact absurd q1 (by decide)) (by rw [t_me]; rfl)))).trans e_sc)) (o_pg := ho88.1) (t_pg := ho88.2) (e_pg := (((show F57 (me) (0 : Int) = F15 (me) (0 : Int) from hM61 _ _ ho41.1 (own_z ho41.1) (by rw [ho41.2]; rfl)).trans ((show F15 (me) (0 : Int) = Fx (me) (0 : Int) from hM18 _ _ ho3.1 (own_z ho3.1) (by rw [ho3.2]; rfl)).trans (show Fx (me) (0 : Int) = F (me) (0 : Int) from hMx _ _ o_me (fun w => by have q1 := ho85.2; rw [w, ho86.2] at q1; exact absurd q1 (by decide)) (by rw [t_me]; rfl)))).trans e_pg)) (p_0 := by omega) (p_1 := by omega) (p_2 := by omega) (p_3 := by omega) (p_4 := by omega) (c_NP := c70)) (fun o V_q hq => ?_)
      obtain ⟨m105, tg105, ln105, F106, r107, rfl, rfl, hx108, hC109, hM110, b111, p112, p113, p114, p115, p116, p117, p118, p119, p120, p121, p122, p123, c124, c125, -⟩ | ⟨m126, tg126, ln126, F126, x126, rfl, rfl, hx126, hC126, hM126, ho126, ht126, p127, p128, p129, p130, c131, c132, -⟩ := hq
      rotate_left
      ·
        have c133 : NM m m126 tg126 := NM_t c91 hx126 c132
        have lm134 := hx126.1
        refine Or.inr (Or.inr (Or.inr ⟨_, _, rfl, cx_exc (c := 15) ho126 ht126 (by decide), rfl, ?_⟩))
        have q135 : F57 (sc) (8 : Int) = F15 (sc) (8 : Int) := q95
        have q136 : F57 (sc) (7 : Int) = F (sc) (7 : Int) := q99
        exact Or.inr ⟨m126, tg126, ln126, F126, x126, rfl, rfl, Ex_t hX89 hx126, hC126, Fq_t (ln := ln) (ln1 := ln56) hM82 hX89 hM126 (by decide) (Or.inr (Or.inl rfl)), (And.intro ho126 ht126).1, (And.intro ho126 ht126).2, by omega, by omega, by omega, by omega, c131, c133, trivial⟩
      have hM137 : Fq gd [(9, 3), (10, 0), (10, 1), (10, 2), (10, 9), (11, 8), (11, 12), (11, 13), (11, 14), (11, 15), (11, 16), (11, 17), (11, 18)] m tg F F106 := Fq_t (ln := ln) (ln1 := ln56) hM82 hX89 hM110 (by decide) (Or.inr (Or.inl rfl))
      have lm138 := hx108.1
      have lt139 : gd < 64 + (m56 : Int) := ho86.1.2.1
      have ho140 : own m105 (me) ∧ tg105 (me) = 9 := Ex_o hx108 ⟨ho85.1, ho85.2⟩
      have ho141 : own m105 (gd) ∧ tg105 (gd) = 8 := Ex_o hx108 ⟨ho86.1, ho86.2⟩
      have ho142 : own m105 (sc) ∧ tg105 (sc) = 11 := Ex_o hx108 ⟨ho87.1, ho87.2⟩
      have ho143 : own m105 (pg) ∧ tg105 (pg) = 10 := Ex_o hx108 ⟨ho88.1, ho88.2⟩
      have hX144 := Ex_t hX89 hx108
      have w145 : WK F106 gd (21) := WK_q w90 hC60 ho86.1 ho86.2 hM110 rfl
      have q146 := p120.1
      have q147 := p120.2.1
      have q148 := p120.2.2.1
      have c149 : NM m m105 tg105 := NM_t c91 hx108 c125
      refine Or.inr (Or.inl ⟨_, rfl, ?_⟩)
      have q150 := p120.1
      have q151 := p120.2.1
      have q152 := p120.2.2.1
      rw [← cV_gh (F := F106) (a := r107) (j := 100) (z := 20) (Or.inr ⟨by decide, by rw [b111.2]; decide⟩)]
      obtain ⟨F153, eF153⟩ : ∃ q, q = uF F106 (r107) (100 : Int) (20) := ⟨_, rfl⟩
      rw [← eF153]
      have hC154 : HC 0 m105 tg105 ln105 F153 := by rw [eF153]; exact HC_gh hC109 (by rw [b111.2]; decide) (by decide)
      have hM155 : Fq gd [(9, 3), (10, 0), (10, 1), (10, 2), (10, 9), (11, 8), (11, 12), (11, 13), (11, 14), (11, 15), (11, 16), (11, 17), (11, 18)] m tg F F153 := by rw [eF153]; exact Fq_x hM137 (Or.inr (by have := hX144.1; omega))
      have w156 : WK F153 gd (21) := by rw [eF153]; exact WK_un w145 hC109 ho141.1 ho141.2 b111.2 (by omega) (by omega)
      rw [← cV_gh (F := F153) (a := r107) (j := 103) (z := 1) (Or.inr ⟨by decide, by rw [b111.2]; decide⟩)]
      obtain ⟨F157, eF157⟩ : ∃ q, q = uF F153 (r107) (103 : Int) (1) := ⟨_, rfl⟩
      rw [← eF157]
      have hC158 : HC 0 m105 tg105 ln105 F157 := by rw [eF157]; exact HC_gh hC154 (by rw [b111.2]; decide) (by decide)
      have hM159 : Fq gd [(9, 3), (10, 0), (10, 1), (10, 2), (10, 9), (11, 8), (11, 12), (11, 13), (11, 14), (11, 15), (11, 16), (11, 17), (11, 18)] m tg F F157 := by rw [eF157]; exact Fq_x hM155 (Or.inr (by have := hX144.1; omega))
      have w160 : WK F157 gd (21) := by rw [eF157]; exact WK_un w156 hC154 ho141.1 ho141.2 b111.2 (by rw [show F153 (r107) (103 : Int) = F106 (r107) (103 : Int) from (show F153 (r107) (103 : Int) = F106 (r107) (103 : Int) from by rw [eF153]; exact uF_j (by decide))]; omega) (by omega)
      have c161 : NP m105 tg105 F157 := by rw [eF157, eF153]; exact NP_seal hC109 c124 b111.1 b111.2 p120 (by omega)
      refine cx_po (pc_q := 178) (c := 7) (q := 5) (qi := (5 : Int)) (z := r107) rfl rfl (by decide) (by decide) rfl rfl rfl (by decide) rfl ho141.1 ho141.2 rfl ?_
      obtain ⟨F162, eF162⟩ : ∃ q, q = uF F157 (gd) (5 : Int) (r107) := ⟨_, rfl⟩
      rw [← eF162]
      have hC163 : HC 0 m105 tg105 ln105 F162 := by rw [eF162]; exact HC_fr (c := 7) (q := 5) (by decide) hC158 ho141.2 (by decide) rfl (Or.inr ⟨b111.1, b111.2⟩) ⟨fun w => absurd w (by decide), fun w => absurd w (by decide)⟩
      have hM164 : Fq gd [(9, 3), (10, 0), (10, 1), (10, 2), (10, 9), (11, 8), (11, 12), (11, 13), (11, 14), (11, 15), (11, 16), (11, 17), (11, 18)] m tg F F162 := by rw [eF162]; exact Fq_x hM159 (Or.inl rfl)
      have w165 : WK F162 gd (21) := by rw [eF162]; exact WK_s w160 (by omega) (show F157 (r107) (103 : Int) = 1 from by rw [eF157]; exact uF_e) (by rw [show F157 (r107) (100 : Int) = 20 from ((show F157 (r107) (100 : Int) = F153 (r107) (100 : Int) from by rw [eF157]; exact uF_j (by decide)).trans (show F153 (r107) (100 : Int) = 20 from by rw [eF153]; exact uF_e))]; omega) (by rw [show F157 (r107) (100 : Int) = 20 from ((show F157 (r107) (100 : Int) = F153 (r107) (100 : Int) from by rw [eF157]; exact uF_j (by decide)).trans (show F153 (r107) (100 : Int) = 20 from by rw [eF153]; exact uF_e))]; omega) (by rw [show F157 (gd) (0 : Int) = Fx (gd) (0 : Int) from ((show F157 (gd) (0 : Int) = F153 (gd) (0 : Int) from by rw [eF157]; exact uF_j (by decide)).trans ((show F153 (gd) (0 : Int) = F106 (gd) (0 : Int) from by rw [eF153]; exact uF_j (by decide)).trans ((show F106 (gd) (0 : Int) = F57 (gd) (0 : Int) from hM110 _ _ ho86.1 (own_z ho86.1) (by rw [ho86.2]; rfl)).trans ((show F57 (gd) (0 : Int) = F15 (gd) (0 : Int) from hM61 _ _ ho42.1 (own_z ho42.1) (by rw [ho42.2]; rfl)).trans (show F15 (gd) (0 : Int) = Fx (gd) (0 : Int) from hM18 _ _ ho4.1 (own_z ho4.1) (by rw [ho4.2]; rfl))))))]; omega)
      have c166 : NP m105 tg105 F162 := by rw [eF162]; exact NP_un hC158 c161 ho141.1 ho141.2 (by rw [show F157 (gd) (103 : Int) = Fx (gd) (103 : Int) from ((show F157 (gd) (103 : Int) = F153 (gd) (103 : Int) from by rw [eF157]; exact uF_a (by omega)).trans ((show F153 (gd) (103 : Int) = F106 (gd) (103 : Int) from by rw [eF153]; exact uF_j (by decide)).trans ((show F106 (gd) (103 : Int) = F57 (gd) (103 : Int) from hM110 _ _ ho86.1 (own_z ho86.1) (by rw [ho86.2]; rfl)).trans ((show F57 (gd) (103 : Int) = F15 (gd) (103 : Int) from hM61 _ _ ho42.1 (own_z ho42.1) (by rw [ho42.2]; rfl)).trans (show F15 (gd) (103 : Int) = Fx (gd) (103 : Int) from hM18 _ _ ho4.1 (own_z ho4.1) (by rw [ho4.2]; rfl))))))]; omega) (by decide) (Or.inl (by decide))
      refine jx_ld (pc_q := 179) (l_q := L) (st_q := [rv (me)]) rfl (jl_rvn gL_0) ?_
      refine cx_gr (pc_q := 182) (c := 8) (q := 1) (v := sc) rfl rfl (by decide) (by decide) rfl rfl ho140.1 ho140.2 (((show F162 (me) (1 : Int) = F157 (me) (1 : Int) from by rw [eF162]; exact uF_j (by decide)).trans ((show F157 (me) (1 : Int) = F153 (me) (1 : Int) from by rw [eF157]; exact uF_j (by decide)).trans ((show F153 (me) (1 : Int) = F106 (me) (1 : Int) from by rw [eF153]; exact uF_j (by decide)).trans ((show F106 (me) (1 : Int) = F57 (me) (1 : Int) from hM110 _ _ ho85.1 (own_z ho85.1) (by rw [ho85.2]; rfl)).trans ((show F57 (me) (1 : Int) = F15 (me) (1 : Int) from hM61 _ _ ho41.1 (own_z ho41.1) (by rw [ho41.2]; rfl)).trans ((show F15 (me) (1 : Int) = Fx (me) (1 : Int) from hM18 _ _ ho3.1 (own_z ho3.1) (by rw [ho3.2]; rfl)).trans (show Fx (me) (1 : Int) = F (me) (1 : Int) from hMx _ _ o_me (fun w => by have q1 := ho140.2; rw [w, ho141.2] at q1; exact absurd q1 (by decide)) (by rw [t_me]; rfl)))))))).trans e_sc) ?_
      refine cx_gi (pc_q := 185) (c := 10) (q := 15) (v := F106 (sc) (15 : Int)) rfl rfl (by decide) (by decide) (Or.inl rfl) rfl ho142.1 ho142.2 ((show F162 (sc) (15 : Int) = F157 (sc) (15 : Int) from by rw [eF162]; exact uF_j (by decide)).trans ((show F157 (sc) (15 : Int) = F153 (sc) (15 : Int) from by rw [eF157]; exact uF_j (by decide)).trans (show F153 (sc) (15 : Int) = F106 (sc) (15 : Int) from by rw [eF153]; exact uF_j (by decide)))) ?_
      have b167 : (-2147483648 : Int) ≤ F106 (sc) (15 : Int) ∧ F106 (sc) (15 : Int) ≤ 2147483647 := by have z := HC_i (c := 10) (q := 15) hC163 ho142.1 ho142.2 (by decide) rfl; rw [show F162 (sc) ((15 : Nat) : Int) = F106 (sc) (15 : Int) from ((show F162 (sc) (15 : Int) = F157 (sc) (15 : Int) from by rw [eF162]; exact uF_j (by decide)).trans ((show F157 (sc) (15 : Int) = F153 (sc) (15 : Int) from by rw [eF157]; exact uF_j (by decide)).trans (show F153 (sc) (15 : Int) = F106 (sc) (15 : Int) from by rw [eF153]; exact uF_j (by decide))))] at z; exact z
      refine jx_ar (pc_q := 187) (st_q := [.int (i32 (51)), .int (i32 (F106 (sc) (15 : Int)))]) rfl rfl rfl rfl ?_
      refine jx_icmp_eq (pc_q := 190) (tg := 194) rfl rfl rfl (by omega) (by omega) (by decide) (by decide) (fun h168 => ?_) (fun h168 => ?_)
      · have _q := h168
        have t169 : tz (F106 (sc) (15 : Int)) = 1 := tz_p (by omega)
        refine jx_ld (pc_q := 195) (l_q := L) (st_q := [rv (gd)]) rfl (jl_rvn gL_1) ?_
        refine jx_ld (pc_q := 196) (l_q := L) (st_q := [rv (me), rv (gd)]) rfl (jl_rvn gL_0) ?_
        have b170 : (0 : Int) ≤ F106 (me) (3 : Int) ∧ F106 (me) (3 : Int) ≤ 8 := by have z := HC_i (c := 8) (q := 3) hC163 ho140.1 ho140.2 (by decide) rfl; rw [show F162 (me) ((3 : Nat) : Int) = F106 (me) (3 : Int) from ((show F162 (me) (3 : Int) = F157 (me) (3 : Int) from by rw [eF162]; exact uF_j (by decide)).trans ((show F157 (me) (3 : Int) = F153 (me) (3 : Int) from by rw [eF157]; exact uF_j (by decide)).trans (show F153 (me) (3 : Int) = F106 (me) (3 : Int) from by rw [eF153]; exact uF_j (by decide))))] at z; exact z
        have q171 : F162 (sc) (8 : Int) = F106 (sc) (8 : Int) := ((show F162 (sc) (8 : Int) = F157 (sc) (8 : Int) from by rw [eF162]; exact uF_j (by decide)).trans ((show F157 (sc) (8 : Int) = F153 (sc) (8 : Int) from by rw [eF157]; exact uF_j (by decide)).trans (show F153 (sc) (8 : Int) = F106 (sc) (8 : Int) from by rw [eF153]; exact uF_j (by decide))))
        have q172 : F162 (sc) (15 : Int) = F106 (sc) (15 : Int) := ((show F162 (sc) (15 : Int) = F157 (sc) (15 : Int) from by rw [eF162]; exact uF_j (by decide)).trans ((show F157 (sc) (15 : Int) = F153 (sc) (15 : Int) from by rw [eF157]; exact uF_j (by decide)).trans (show F153 (sc) (15 : Int) = F106 (sc) (15 : Int) from by rw [eF153]; exact uF_j (by decide))))
        have q173 : tz (F162 (sc) (15 : Int)) = tz (F106 (sc) (15 : Int)) := by rw [q172]
        have q174 := tz_b (F106 (sc) (15 : Int))
        have q175 : F162 (sc) (7 : Int) = F (sc) (7 : Int) := ((show F162 (sc) (7 : Int) = F157 (sc) (7 : Int) from by rw [eF162]; exact uF_j (by decide)).trans ((show F157 (sc) (7 : Int) = F153 (sc) (7 : Int) from by rw [eF157]; exact uF_j (by decide)).trans ((show F153 (sc) (7 : Int) = F106 (sc) (7 : Int) from by rw [eF153]; exact uF_j (by decide)).trans ((show F106 (sc) (7 : Int) = F57 (sc) (7 : Int) from hM110 _ _ ho87.1 (own_z ho87.1) (by rw [ho87.2]; rfl)).trans q99))))
        have q176 : F162 (sc) (14 : Int) = F106 (sc) (14 : Int) := ((show F162 (sc) (14 : Int) = F157 (sc) (14 : Int) from by rw [eF162]; exact uF_j (by decide)).trans ((show F157 (sc) (14 : Int) = F153 (sc) (14 : Int) from by rw [eF157]; exact uF_j (by decide)).trans (show F153 (sc) (14 : Int) = F106 (sc) (14 : Int) from by rw [eF153]; exact uF_j (by decide))))
        have q177 : lz (F162 (sc) (14 : Int)) = lz (F106 (sc) (14 : Int)) := by rw [q176]
        have q178 := lz_b (F106 (sc) (14 : Int))
        have q179 : F162 (pg) (9 : Int) = F106 (pg) (9 : Int) := ((show F162 (pg) (9 : Int) = F157 (pg) (9 : Int) from by rw [eF162]; exact uF_j (by decide)).trans ((show F157 (pg) (9 : Int) = F153 (pg) (9 : Int) from by rw [eF157]; exact uF_j (by decide)).trans (show F153 (pg) (9 : Int) = F106 (pg) (9 : Int) from by rw [eF153]; exact uF_j (by decide))))
        have q180 : F162 (me) (3 : Int) = F106 (me) (3 : Int) := ((show F162 (me) (3 : Int) = F157 (me) (3 : Int) from by rw [eF162]; exact uF_j (by decide)).trans ((show F157 (me) (3 : Int) = F153 (me) (3 : Int) from by rw [eF157]; exact uF_j (by decide)).trans (show F153 (me) (3 : Int) = F106 (me) (3 : Int) from by rw [eF153]; exact uF_j (by decide))))
        refine cx_vi (c := 8) (a := me) (st := [rv (gd)]) (as := []) rfl rfl rfl ho140.1 ho140.2 (by decide) rfl ⟨rfl, rfl, (by rw [jS_r, jS_0]; exact Nat.le_of_ble_eq_true rfl)⟩ rfl (k_LParser_readTarget (dd := d) (R := R) (m := m105) (tg := tg105) (ln := ln105) (F := F162) (me := me) (hd := by omega) (hC := hC163) (o_me := ho140.1) (t_me := ho140.2) (sc := sc) (pg := pg) (o_sc := ho142.1) (t_sc := ho142.2) (e_sc := (((show F162 (me) (1 : Int) = F157 (me) (1 : Int) from by rw [eF162]; exact uF_j (by decide)).trans ((show F157 (me) (1 : Int) = F153 (me) (1 : Int) from by rw [eF157]; exact uF_j (by decide)).trans ((show F153 (me) (1 : Int) = F106 (me) (1 : Int) from by rw [eF153]; exact uF_j (by decide)).trans ((show F106 (me) (1 : Int) = F57 (me) (1 : Int) from hM110 _ _ ho85.1 (own_z ho85.1) (by rw [ho85.2]; rfl)).trans ((show F57 (me) (1 : Int) = F15 (me) (1 : Int) from hM61 _ _ ho41.1 (own_z ho41.1) (by rw [ho41.2]; rfl)).trans ((show F15 (me) (1 : Int) = Fx (me) (1 : Int) from hM18 _ _ ho3.1 (own_z ho3.1) (by rw [ho3.2]; rfl)).trans (show Fx (me) (1 : Int) = F (me) (1 : Int) from hMx _ _ o_me (fun w => by have q1 := ho140.2; rw [w, ho141.2] at q1; exact absurd q1 (by decide)) (by rw [t_me]; rfl)))))))).trans e_sc)) (o_pg := ho143.1) (t_pg := ho143.2) (e_pg := (((show F162 (me) (0 : Int) = F157 (me) (0 : Int) from by rw [eF162]; exact uF_j (by decide)).trans ((show F157 (me) (0 : Int) = F153 (me) (0 : Int) from by rw [eF157]; exact uF_j (by decide)).trans ((show F153 (me) (0 : Int) = F106 (me) (0 : Int) from by rw [eF153]; exact uF_j (by decide)).trans ((show F106 (me) (0 : Int) = F57 (me) (0 : Int) from hM110 _ _ ho85.1 (own_z ho85.1) (by rw [ho85.2]; rfl)).trans ((show F57 (me) (0 : Int) = F15 (me) (0 : Int) from hM61 _ _ ho41.1 (own_z ho41.1) (by rw [ho41.2]; rfl)).trans ((show F15 (me) (0 : Int) = Fx (me) (0 : Int) from hM18 _ _ ho3.1 (own_z ho3.1) (by rw [ho3.2]; rfl)).trans (show Fx (me) (0 : Int) = F (me) (0 : Int) from hMx _ _ o_me (fun w => by have q1 := ho140.2; rw [w, ho141.2] at q1; exact absurd q1 (by decide)) (by rw [t_me]; rfl)))))))).trans e_pg)) (p_0 := by omega) (p_1 := by omega) (p_2 := by omega) (p_3 := by omega) (c_NP := c166)) (fun o V_q hq => ?_)
        obtain ⟨m181, tg181, ln181, F182, r183, rfl, rfl, hx184, hC185, hM186, b187, p188, p189, p190, p191, p192, p193, p194, p195, p196, p197, p198, p199, c200, c201, -⟩ | ⟨m202, tg202, ln202, F202, x202, rfl, rfl, hx202, hC202, hM202, ho202, ht202, p203, p204, p205, p206, c207, c208, -⟩ := hq
        rotate_left
        ·
          have c209 : NM m m202 tg202 := NM_t c149 hx202 c208
          have lm210 := hx202.1
          refine Or.inr (Or.inr (Or.inr ⟨_, _, rfl, cx_exc (c := 15) ho202 ht202 (by decide), rfl, ?_⟩))
          have q211 : F162 (sc) (8 : Int) = F106 (sc) (8 : Int) := q171
          have q212 : F162 (sc) (7 : Int) = F (sc) (7 : Int) := q175
          exact Or.inr ⟨m202, tg202, ln202, F202, x202, rfl, rfl, Ex_t hX144 hx202, hC202, Fq_t (ln := ln) (ln1 := ln105) hM164 hX144 hM202 (by decide) (Or.inr (Or.inl rfl)), (And.intro ho202 ht202).1, (And.intro ho202 ht202).2, by omega, by omega, by omega, by omega, c207, c209, trivial⟩
        have hM213 : Fq gd [(9, 3), (10, 0), (10, 1), (10, 2), (10, 9), (11, 8), (11, 12), (11, 13), (11, 14), (11, 15), (11, 16), (11, 17), (11, 18)] m tg F F182 := Fq_t (ln := ln) (ln1 := ln105) hM164 hX144 hM186 (by decide) (Or.inr (Or.inl rfl))
        have lm214 := hx184.1
        have lt215 : gd < 64 + (m105 : Int) := ho141.1.2.1
        have ho216 : own m181 (me) ∧ tg181 (me) = 9 := Ex_o hx184 ⟨ho140.1, ho140.2⟩
        have ho217 : own m181 (gd) ∧ tg181 (gd) = 8 := Ex_o hx184 ⟨ho141.1, ho141.2⟩
        have ho218 : own m181 (sc) ∧ tg181 (sc) = 11 := Ex_o hx184 ⟨ho142.1, ho142.2⟩
        have ho219 : own m181 (pg) ∧ tg181 (pg) = 10 := Ex_o hx184 ⟨ho143.1, ho143.2⟩
        have hX220 := Ex_t hX144 hx184
        have w221 : WK F182 gd (21) := WK_q w165 hC163 ho141.1 ho141.2 hM186 rfl
        have q222 := p196.1
        have q223 := p196.2.1
        have q224 := p196.2.2.1
        have c225 : NM m m181 tg181 := NM_t c149 hx184 c201
        refine Or.inr (Or.inl ⟨_, rfl, ?_⟩)
        have q226 := p196.1
        have q227 := p196.2.1
        have q228 := p196.2.2.1
        rw [← cV_gh (F := F182) (a := r183) (j := 100) (z := 20) (Or.inr ⟨by decide, by rw [b187.2]; decide⟩)]
        obtain ⟨F229, eF229⟩ : ∃ q, q = uF F182 (r183) (100 : Int) (20) := ⟨_, rfl⟩
        rw [← eF229]
        have hC230 : HC 0 m181 tg181 ln181 F229 := by rw [eF229]; exact HC_gh hC185 (by rw [b187.2]; decide) (by decide)
        have hM231 : Fq gd [(9, 3), (10, 0), (10, 1), (10, 2), (10, 9), (11, 8), (11, 12), (11, 13), (11, 14), (11, 15), (11, 16), (11, 17), (11, 18)] m tg F F229 := by rw [eF229]; exact Fq_x hM213 (Or.inr (by have := hX220.1; omega))
        have w232 : WK F229 gd (21) := by rw [eF229]; exact WK_un w221 hC185 ho217.1 ho217.2 b187.2 (by omega) (by omega)
        rw [← cV_gh (F := F229) (a := r183) (j := 103) (z := 1) (Or.inr ⟨by decide, by rw [b187.2]; decide⟩)]
        obtain ⟨F233, eF233⟩ : ∃ q, q = uF F229 (r183) (103 : Int) (1) := ⟨_, rfl⟩
        rw [← eF233]
        have hC234 : HC 0 m181 tg181 ln181 F233 := by rw [eF233]; exact HC_gh hC230 (by rw [b187.2]; decide) (by decide)
        have hM235 : Fq gd [(9, 3), (10, 0), (10, 1), (10, 2), (10, 9), (11, 8), (11, 12), (11, 13), (11, 14), (11, 15), (11, 16), (11, 17), (11, 18)] m tg F F233 := by rw [eF233]; exact Fq_x hM231 (Or.inr (by have := hX220.1; omega))
        have w236 : WK F233 gd (21) := by rw [eF233]; exact WK_un w232 hC230 ho217.1 ho217.2 b187.2 (by rw [show F229 (r183) (103 : Int) = F182 (r183) (103 : Int) from (show F229 (r183) (103 : Int) = F182 (r183) (103 : Int) from by rw [eF229]; exact uF_j (by decide))]; omega) (by omega)
        have c237 : NP m181 tg181 F233 := by rw [eF233, eF229]; exact NP_seal hC185 c200 b187.1 b187.2 p196 (by omega)
        refine cx_po (pc_q := 202) (c := 7) (q := 6) (qi := (6 : Int)) (z := r183) rfl rfl (by decide) (by decide) rfl rfl rfl (by decide) rfl ho217.1 ho217.2 rfl ?_
        obtain ⟨F238, eF238⟩ : ∃ q, q = uF F233 (gd) (6 : Int) (r183) := ⟨_, rfl⟩
        rw [← eF238]
        have hC239 : HC 0 m181 tg181 ln181 F238 := by rw [eF238]; exact HC_fr (c := 7) (q := 6) (by decide) hC234 ho217.2 (by decide) rfl (Or.inr ⟨b187.1, b187.2⟩) ⟨fun w => absurd w (by decide), fun w => absurd w (by decide)⟩
        have hM240 : Fq gd [(9, 3), (10, 0), (10, 1), (10, 2), (10, 9), (11, 8), (11, 12), (11, 13), (11, 14), (11, 15), (11, 16), (11, 17), (11, 18)] m tg F F238 := by rw [eF238]; exact Fq_x hM235 (Or.inl rfl)
        have w241 : WK F238 gd (21) := by rw [eF238]; exact WK_s w236 (by omega) (show F233 (r183) (103 : Int) = 1 from by rw [eF233]; exact uF_e) (by rw [show F233 (r183) (100 : Int) = 20 from ((show F233 (r183) (100 : Int) = F229 (r183) (100 : Int) from by rw [eF233]; exact uF_j (by decide)).trans (show F229 (r183) (100 : Int) = 20 from by rw [eF229]; exact uF_e))]; omega) (by rw [show F233 (r183) (100 : Int) = 20 from ((show F233 (r183) (100 : Int) = F229 (r183) (100 : Int) from by rw [eF233]; exact uF_j (by decide)).trans (show F229 (r183) (100 : Int) = 20 from by rw [eF229]; exact uF_e))]; omega) (by rw [show F233 (gd) (0 : Int) = Fx (gd) (0 : Int) from ((show F233 (gd) (0 : Int) = F229 (gd) (0 : Int) from by rw [eF233]; exact uF_j (by decide)).trans ((show F229 (gd) (0 : Int) = F182 (gd) (0 : Int) from by rw [eF229]; exact uF_j (by decide)).trans ((show F182 (gd) (0 : Int) = F162 (gd) (0 : Int) from hM186 _ _ ho141.1 (own_z ho141.1) (by rw [ho141.2]; rfl)).trans ((show F162 (gd) (0 : Int) = F157 (gd) (0 : Int) from by rw [eF162]; exact uF_j (by decide)).trans ((show F157 (gd) (0 : Int) = F153 (gd) (0 : Int) from by rw [eF157]; exact uF_j (by decide)).trans ((show F153 (gd) (0 : Int) = F106 (gd) (0 : Int) from by rw [eF153]; exact uF_j (by decide)).trans ((show F106 (gd) (0 : Int) = F57 (gd) (0 : Int) from hM110 _ _ ho86.1 (own_z ho86.1) (by rw [ho86.2]; rfl)).trans ((show F57 (gd) (0 : Int) = F15 (gd) (0 : Int) from hM61 _ _ ho42.1 (own_z ho42.1) (by rw [ho42.2]; rfl)).trans (show F15 (gd) (0 : Int) = Fx (gd) (0 : Int) from hM18 _ _ ho4.1 (own_z ho4.1) (by rw [ho4.2]; rfl))))))))))]; omega)
        have c242 : NP m181 tg181 F238 := by rw [eF238]; exact NP_un hC234 c237 ho217.1 ho217.2 (by rw [show F233 (gd) (103 : Int) = Fx (gd) (103 : Int) from ((show F233 (gd) (103 : Int) = F229 (gd) (103 : Int) from by rw [eF233]; exact uF_a (by omega)).trans ((show F229 (gd) (103 : Int) = F182 (gd) (103 : Int) from by rw [eF229]; exact uF_j (by decide)).trans ((show F182 (gd) (103 : Int) = F162 (gd) (103 : Int) from hM186 _ _ ho141.1 (own_z ho141.1) (by rw [ho141.2]; rfl)).trans ((show F162 (gd) (103 : Int) = F157 (gd) (103 : Int) from by rw [eF162]; exact uF_j (by decide)).trans ((show F157 (gd) (103 : Int) = F153 (gd) (103 : Int) from by rw [eF157]; exact uF_a (by omega)).trans ((show F153 (gd) (103 : Int) = F106 (gd) (103 : Int) from by rw [eF153]; exact uF_j (by decide)).trans ((show F106 (gd) (103 : Int) = F57 (gd) (103 : Int) from hM110 _ _ ho86.1 (own_z ho86.1) (by rw [ho86.2]; rfl)).trans ((show F57 (gd) (103 : Int) = F15 (gd) (103 : Int) from hM61 _ _ ho42.1 (own_z ho42.1) (by rw [ho42.2]; rfl)).trans (show F15 (gd) (103 : Int) = Fx (gd) (103 : Int) from hM18 _ _ ho4.1 (own_z ho4.1) (by rw [ho4.2]; rfl))))))))))]; omega) (by decide) (Or.inl (by decide))
        refine jx_rt (v := none) rfl rfl rfl rfl rfl rfl ?_
        have q243 : F238 (sc) (7 : Int) = F (sc) (7 : Int) := ((show F238 (sc) (7 : Int) = F233 (sc) (7 : Int) from by rw [eF238]; exact uF_j (by decide)).trans ((show F233 (sc) (7 : Int) = F229 (sc) (7 : Int) from by rw [eF233]; exact uF_j (by decide)).trans ((show F229 (sc) (7 : Int) = F182 (sc) (7 : Int) from by rw [eF229]; exact uF_j (by decide)).trans ((show F182 (sc) (7 : Int) = F162 (sc) (7 : Int) from hM186 _ _ ho142.1 (own_z ho142.1) (by rw [ho142.2]; rfl)).trans q175))))
        have q244 : F238 (sc) (8 : Int) = F182 (sc) (8 : Int) := ((show F238 (sc) (8 : Int) = F233 (sc) (8 : Int) from by rw [eF238]; exact uF_j (by decide)).trans ((show F233 (sc) (8 : Int) = F229 (sc) (8 : Int) from by rw [eF233]; exact uF_j (by decide)).trans (show F229 (sc) (8 : Int) = F182 (sc) (8 : Int) from by rw [eF229]; exact uF_j (by decide))))
        have q245 : F238 (pg) (9 : Int) = F182 (pg) (9 : Int) := ((show F238 (pg) (9 : Int) = F233 (pg) (9 : Int) from by rw [eF238]; exact uF_j (by decide)).trans ((show F233 (pg) (9 : Int) = F229 (pg) (9 : Int) from by rw [eF233]; exact uF_j (by decide)).trans (show F229 (pg) (9 : Int) = F182 (pg) (9 : Int) from by rw [eF229]; exact uF_j (by decide))))
        have q246 : F238 (sc) (8 : Int) = F182 (sc) (8 : Int) := q244
        have q247 : F238 (sc) (15 : Int) = F182 (sc) (15 : Int) := ((show F238 (sc) (15 : Int) = F233 (sc) (15 : Int) from by rw [eF238]; exact uF_j (by decide)).trans ((show F233 (sc) (15 : Int) = F229 (sc) (15 : Int) from by rw [eF233]; exact uF_j (by decide)).trans (show F229 (sc) (15 : Int) = F182 (sc) (15 : Int) from by rw [eF229]; exact uF_j (by decide))))
        have q248 : tz (F238 (sc) (15 : Int)) = tz (F182 (sc) (15 : Int)) := by rw [q247]
        have q249 := tz_b (F182 (sc) (15 : Int))
        have q250 : F238 (sc) (14 : Int) = F182 (sc) (14 : Int) := ((show F238 (sc) (14 : Int) = F233 (sc) (14 : Int) from by rw [eF238]; exact uF_j (by decide)).trans ((show F233 (sc) (14 : Int) = F229 (sc) (14 : Int) from by rw [eF233]; exact uF_j (by decide)).trans (show F229 (sc) (14 : Int) = F182 (sc) (14 : Int) from by rw [eF229]; exact uF_j (by decide))))
        have q251 : lz (F238 (sc) (14 : Int)) = lz (F182 (sc) (14 : Int)) := by rw [q250]
        have q252 := lz_b (F182 (sc) (14 : Int))
        have q253 : F238 (pg) (9 : Int) = F182 (pg) (9 : Int) := q245
        have q254 : F238 (gd) (0 : Int) = Fx (gd) (0 : Int) := ((show F238 (gd) (0 : Int) = F233 (gd) (0 : Int) from by rw [eF238]; exact uF_j (by decide)).trans ((show F233 (gd) (0 : Int) = F229 (gd) (0 : Int) from by rw [eF233]; exact uF_j (by decide)).trans ((show F229 (gd) (0 : Int) = F182 (gd) (0 : Int) from by rw [eF229]; exact uF_j (by decide)).trans ((show F182 (gd) (0 : Int) = F162 (gd) (0 : Int) from hM186 _ _ ho141.1 (own_z ho141.1) (by rw [ho141.2]; rfl)).trans ((show F162 (gd) (0 : Int) = F157 (gd) (0 : Int) from by rw [eF162]; exact uF_j (by decide)).trans ((show F157 (gd) (0 : Int) = F153 (gd) (0 : Int) from by rw [eF157]; exact uF_j (by decide)).trans ((show F153 (gd) (0 : Int) = F106 (gd) (0 : Int) from by rw [eF153]; exact uF_j (by decide)).trans ((show F106 (gd) (0 : Int) = F57 (gd) (0 : Int) from hM110 _ _ ho86.1 (own_z ho86.1) (by rw [ho86.2]; rfl)).trans ((show F57 (gd) (0 : Int) = F15 (gd) (0 : Int) from hM61 _ _ ho42.1 (own_z ho42.1) (by rw [ho42.2]; rfl)).trans (show F15 (gd) (0 : Int) = Fx (gd) (0 : Int) from hM18 _ _ ho4.1 (own_z ho4.1) (by rw [ho4.2]; rfl)))))))))))
        exact Or.inl ⟨m181, tg181, ln181, F238, rfl, rfl, hX220, hC239, hM240, by omega, by omega, by omega, by omega, by omega, by omega, by omega, (WK_m w241 (by omega)), by omega, c242, c225, trivial⟩
      · have _q := h168
        refine jx_ld (pc_q := 191) (l_q := L) (st_q := [rv (me)]) rfl (jl_rvn gL_0) ?_
        have q255 : F162 (sc) (8 : Int) = F106 (sc) (8 : Int) := ((show F162 (sc) (8 : Int) = F157 (sc) (8 : Int) from by rw [eF162]; exact uF_j (by decide)).trans ((show F157 (sc) (8 : Int) = F153 (sc) (8 : Int) from by rw [eF157]; exact uF_j (by decide)).trans (show F153 (sc) (8 : Int) = F106 (sc) (8 : Int) from by rw [eF153]; exact uF_j (by decide))))
        have q256 : F162 (sc) (7 : Int) = F (sc) (7 : Int) := ((show F162 (sc) (7 : Int) = F157 (sc) (7 : Int) from by rw [eF162]; exact uF_j (by decide)).trans ((show F157 (sc) (7 : Int) = F153 (sc) (7 : Int) from by rw [eF157]; exact uF_j (by decide)).trans ((show F153 (sc) (7 : Int) = F106 (sc) (7 : Int) from by rw [eF153]; exact uF_j (by decide)).trans ((show F106 (sc) (7 : Int) = F57 (sc) (7 : Int) from hM110 _ _ ho87.1 (own_z ho87.1) (by rw [ho87.2]; rfl)).trans q99))))
        refine cx_vi (c := 8) (a := me) (st := []) (as := []) rfl rfl rfl ho140.1 ho140.2 (by decide) rfl ⟨rfl, rfl, (Nat.le_of_ble_eq_true rfl)⟩ rfl (k_LParser_form (dd := d) (R := R) (m := m105) (tg := tg105) (ln := ln105) (F := F162) (me := me) (hd := by omega) (hC := hC163) (o_me := ho140.1) (t_me := ho140.2) (sc := sc) (pg := pg) (o_sc := ho142.1) (t_sc := ho142.2) (e_sc := (((show F162 (me) (1 : Int) = F157 (me) (1 : Int) from by rw [eF162]; exact uF_j (by decide)).trans ((show F157 (me) (1 : Int) = F153 (me) (1 : Int) from by rw [eF157]; exact uF_j (by decide)).trans ((show F153 (me) (1 : Int) = F106 (me) (1 : Int) from by rw [eF153]; exact uF_j (by decide)).trans ((show F106 (me) (1 : Int) = F57 (me) (1 : Int) from hM110 _ _ ho85.1 (own_z ho85.1) (by rw [ho85.2]; rfl)).trans ((show F57 (me) (1 : Int) = F15 (me) (1 : Int) from hM61 _ _ ho41.1 (own_z ho41.1) (by rw [ho41.2]; rfl)).trans ((show F15 (me) (1 : Int) = Fx (me) (1 : Int) from hM18 _ _ ho3.1 (own_z ho3.1) (by rw [ho3.2]; rfl)).trans (show Fx (me) (1 : Int) = F (me) (1 : Int) from hMx _ _ o_me (fun w => by have q1 := ho140.2; rw [w, ho141.2] at q1; exact absurd q1 (by decide)) (by rw [t_me]; rfl)))))))).trans e_sc)) (o_pg := ho143.1) (t_pg := ho143.2) (e_pg := (((show F162 (me) (0 : Int) = F157 (me) (0 : Int) from by rw [eF162]; exact uF_j (by decide)).trans ((show F157 (me) (0 : Int) = F153 (me) (0 : Int) from by rw [eF157]; exact uF_j (by decide)).trans ((show F153 (me) (0 : Int) = F106 (me) (0 : Int) from by rw [eF153]; exact uF_j (by decide)).trans ((show F106 (me) (0 : Int) = F57 (me) (0 : Int) from hM110 _ _ ho85.1 (own_z ho85.1) (by rw [ho85.2]; rfl)).trans ((show F57 (me) (0 : Int) = F15 (me) (0 : Int) from hM61 _ _ ho41.1 (own_z ho41.1) (by rw [ho41.2]; rfl)).trans ((show F15 (me) (0 : Int) = Fx (me) (0 : Int) from hM18 _ _ ho3.1 (own_z ho3.1) (by rw [ho3.2]; rfl)).trans (show Fx (me) (0 : Int) = F (me) (0 : Int) from hMx _ _ o_me (fun w => by have q1 := ho140.2; rw [w, ho141.2] at q1; exact absurd q1 (by decide)) (by rw [t_me]; rfl)))))))).trans e_pg)) (p_0 := by omega) (c_NP := c166)) (fun o V_q hq => ?_)
        obtain ⟨m257, tg257, ln257, F258, rfl, rfl, hx259, hC260, hM261, p262, c263, c264, -⟩ | ⟨m265, tg265, ln265, F265, x265, rfl, rfl, hx265, hC265, hM265, ho265, ht265, p266, p267, p268, p269, c270, c271, -⟩ := hq
        rotate_left
        ·
          have c272 : NM m m265 tg265 := NM_t c149 hx265 c271
          have lm273 := hx265.1
          refine Or.inr (Or.inr (Or.inr ⟨_, _, rfl, cx_exc (c := 15) ho265 ht265 (by decide), rfl, ?_⟩))
          have q274 : F162 (sc) (8 : Int) = F106 (sc) (8 : Int) := q255
          have q275 : F162 (sc) (7 : Int) = F (sc) (7 : Int) := q256
          exact Or.inr ⟨m265, tg265, ln265, F265, x265, rfl, rfl, Ex_t hX144 hx265, hC265, Fq_t (ln := ln) (ln1 := ln105) hM164 hX144 hM265 (by decide) (Or.inr (Or.inl rfl)), (And.intro ho265 ht265).1, (And.intro ho265 ht265).2, by omega, by omega, by omega, by omega, c270, c272, trivial⟩
        exact p262.elim
    · have _q := h50
      refine jx_ld (pc_q := 160) (l_q := L) (st_q := [rv (me)]) rfl (jl_rvn gL_0) ?_
      have q276 : F15 (sc) (7 : Int) = F (sc) (7 : Int) := ((show F15 (sc) (7 : Int) = Fx (sc) (7 : Int) from hM18 _ _ ho5.1 (own_z ho5.1) (by rw [ho5.2]; rfl)).trans (show Fx (sc) (7 : Int) = F (sc) (7 : Int) from hMx _ _ o_sc (fun w => by have q1 := ho43.2; rw [w, ho42.2] at q1; exact absurd q1 (by decide)) (by rw [t_sc]; rfl)))
      refine cx_vi (c := 8) (a := me) (st := []) (as := []) rfl rfl rfl ho41.1 ho41.2 (by decide) rfl ⟨rfl, rfl, (Nat.le_of_ble_eq_true rfl)⟩ rfl (k_LParser_form (dd := d) (R := R) (m := m14) (tg := tg14) (ln := ln14) (F := F15) (me := me) (hd := by omega) (hC := hC17) (o_me := ho41.1) (t_me := ho41.2) (sc := sc) (pg := pg) (o_sc := ho43.1) (t_sc := ho43.2) (e_sc := (((show F15 (me) (1 : Int) = Fx (me) (1 : Int) from hM18 _ _ ho3.1 (own_z ho3.1) (by rw [ho3.2]; rfl)).trans (show Fx (me) (1 : Int) = F (me) (1 : Int) from hMx _ _ o_me (fun w => by have q1 := ho41.2; rw [w, ho42.2] at q1; exact absurd q1 (by decide)) (by rw [t_me]; rfl))).trans e_sc)) (o_pg := ho44.1) (t_pg := ho44.2) (e_pg := (((show F15 (me) (0 : Int) = Fx (me) (0 : Int) from hM18 _ _ ho3.1 (own_z ho3.1) (by rw [ho3.2]; rfl)).trans (show Fx (me) (0 : Int) = F (me) (0 : Int) from hMx _ _ o_me (fun w => by have q1 := ho41.2; rw [w, ho42.2] at q1; exact absurd q1 (by decide)) (by rw [t_me]; rfl))).trans e_pg)) (p_0 := by omega) (c_NP := c26)) (fun o V_q hq => ?_)
      obtain ⟨m277, tg277, ln277, F278, rfl, rfl, hx279, hC280, hM281, p282, c283, c284, -⟩ | ⟨m285, tg285, ln285, F285, x285, rfl, rfl, hx285, hC285, hM285, ho285, ht285, p286, p287, p288, p289, c290, c291, -⟩ := hq
      rotate_left
      ·
        have c292 : NM m m285 tg285 := NM_t c47 hx285 c291
        have lm293 := hx285.1
        refine Or.inr (Or.inr (Or.inr ⟨_, _, rfl, cx_exc (c := 15) ho285 ht285 (by decide), rfl, ?_⟩))
        have q294 : F15 (sc) (7 : Int) = F (sc) (7 : Int) := q276
        exact Or.inr ⟨m285, tg285, ln285, F285, x285, rfl, rfl, Ex_t hX45 hx285, hC285, Fq_t (ln := ln) (ln1 := ln14) hM38 hX45 hM285 (by decide) (Or.inr (Or.inl rfl)), (And.intro ho285 ht285).1, (And.intro ho285 ht285).2, by omega, by omega, by omega, by omega, c290, c292, trivial⟩
      exact p282.elim
  · have _q := h49
    have t295 : tz (F15 (sc) (15 : Int)) = 1 := tz_p (by omega)
    refine jx_ld (pc_q := 141) (l_q := L) (st_q := [rv (me)]) rfl (jl_rvn gL_0) ?_
    refine cx_gr (pc_q := 144) (c := 8) (q := 1) (v := sc) rfl rfl (by decide) (by decide) rfl rfl ho41.1 ho41.2 (((show F15 (me) (1 : Int) = Fx (me) (1 : Int) from hM18 _ _ ho3.1 (own_z ho3.1) (by rw [ho3.2]; rfl)).trans (show Fx (me) (1 : Int) = F (me) (1 : Int) from hMx _ _ o_me (fun w => by have q1 := ho41.2; rw [w, ho42.2] at q1; exact absurd q1 (by decide)) (by rw [t_me]; rfl))).trans e_sc) ?_
    have q296 := tz_b (F15 (sc) (15 : Int))
    have q297 : F15 (sc) (7 : Int) = F (sc) (7 : Int) := ((show F15 (sc) (7 : Int) = Fx (sc) (7 : Int) from hM18 _ _ ho5.1 (own_z ho5.1) (by rw [ho5.2]; rfl)).trans (show Fx (sc) (7 : Int) = F (sc) (7 : Int) from hMx _ _ o_sc (fun w => by have q1 := ho43.2; rw [w, ho42.2] at q1; exact absurd q1 (by decide)) (by rw [t_sc]; rfl)))
    have q298 := lz_b (F15 (sc) (14 : Int))
    refine cx_vi (c := 10) (a := sc) (st := []) (as := []) rfl rfl rfl ho43.1 ho43.2 (by decide) rfl ⟨rfl, rfl, (Nat.le_of_ble_eq_true rfl)⟩ rfl (k_LScanner_next (dd := d) (R := R) (m := m14) (tg := tg14) (ln := ln14) (F := F15) (me := sc) (hd := by omega) (hC := hC17) (o_me := ho43.1) (t_me := ho43.2) (p_0 := by omega) (p_1 := by omega)) (fun o V_q hq => ?_)
    obtain ⟨F299, rfl, rfl, hC300, hM301, p302, p303, p304, -⟩ := hq
    have hM305 : Fq gd [(9, 3), (10, 0), (10, 1), (10, 2), (10, 9), (11, 8), (11, 12), (11, 13), (11, 14), (11, 15), (11, 16), (11, 17), (11, 18)] m tg F F299 := Fq_t (ln := ln) (ln1 := ln14) hM38 hX45 hM301 (by decide) (Or.inr (Or.inl rfl))
    have w306 : WK F299 gd (21) := WK_q w46 hC17 ho42.1 ho42.2 hM301 rfl
    have c307 : NP m14 tg14 F299 := NP_q hC17 c26 hM301 rfl rfl
    refine Or.inl ⟨rfl, ?_⟩
    refine jx_rt (v := none) rfl rfl rfl rfl rfl rfl ?_
    have q308 : F299 (sc) (7 : Int) = F (sc) (7 : Int) := ((show F299 (sc) (7 : Int) = F15 (sc) (7 : Int) from hM301 _ _ ho43.1 (own_z ho43.1) (by rw [ho43.2]; rfl)).trans q297)
    have q309 : F299 (pg) (9 : Int) = Fx (pg) (9 : Int) := ((show F299 (pg) (9 : Int) = F15 (pg) (9 : Int) from hM301 _ _ ho44.1 (own_z ho44.1) (by rw [ho44.2]; rfl)).trans (show F15 (pg) (9 : Int) = Fx (pg) (9 : Int) from hM18 _ _ ho6.1 (own_z ho6.1) (by rw [ho6.2]; rfl)))
    have q310 := tz_b (F299 (sc) (15 : Int))
    have q311 := lz_b (F299 (sc) (14 : Int))
    have q312 : F299 (pg) (9 : Int) = Fx (pg) (9 : Int) := q309
    have q313 : F299 (gd) (0 : Int) = Fx (gd) (0 : Int) := ((show F299 (gd) (0 : Int) = F15 (gd) (0 : Int) from hM301 _ _ ho42.1 (own_z ho42.1) (by rw [ho42.2]; rfl)).trans (show F15 (gd) (0 : Int) = Fx (gd) (0 : Int) from hM18 _ _ ho4.1 (own_z ho4.1) (by rw [ho4.2]; rfl)))
    exact Or.inl ⟨m14, tg14, ln14, F299, rfl, rfl, hX45, hC300, hM305, by omega, by omega, by omega, by omega, by omega, by omega, by omega, (WK_m w306 (by omega)), by omega, c307, c47, trivial⟩
set_option maxRecDepth 20000 in
set_option maxHeartbeats 4000000 in
theorem k_LParser_readGuard {X : jX} {dd : Nat} {R : Nat → jC} {m : Nat} {tg ln : Int → Int} {F : Int → Int → Int} {me gd : Int} (hd : 64 ≤ dd) (hC : HC 0 m tg ln F) {sc pg : Int} (o_sc : own m sc) (t_sc : tg sc = 11) (e_sc : F me (1 : Int) = sc) (o_pg : own m pg) (t_pg : tg pg = 10) (e_pg : F me (0 : Int) = pg) (o_me : own m me) (t_me : tg me = 9) (o_gd : own m gd) (t_gd : tg gd = 8) (p_0 : F sc (8 : Int) + 2 * tz (F sc (15 : Int)) ≤ F sc (7 : Int) + 1) (p_1 : F sc (8 : Int) + 2 * lz (F sc (14 : Int)) ≤ F sc (7 : Int) + 1) (p_2 : F sc (8 : Int) ≤ F sc (7 : Int)) (p_3 : F gd (0 : Int) = 15) (p_4 : F gd (4 : Int) = 0) (p_5 : F gd (5 : Int) = 0) (p_6 : F gd (6 : Int) = 0) (p_7 : F gd (7 : Int) = 0) (p_8 : F gd (8 : Int) = 0) (p_9 : F gd (101 : Int) = 0) (p_10 : F gd (103 : Int) = 0) (c_NP : NP m tg F) : wk X dd 189 [rv me, rv gd] (cV R m tg ln F) (fun o V_q => (∃ (m_q : Nat) (tg_q ln_q : Int → Int) (F_q : Int → Int → Int), V_q = cV R m_q tg_q ln_q F_q ∧ o = .inl none ∧ Ex m tg ln m_q tg_q ln_q ∧ HC 0 m_q tg_q ln_q F_q ∧ Fq gd [(9, 3), (10, 0), (10, 1), (10, 2), (10, 9), (11, 8), (11, 12), (11, 13), (11, 14), (11, 15), (11, 16), (11, 17), (11, 18)] m tg F F_q ∧ (F_q sc (8 : Int) + 2 * tz (F_q sc (15 : Int)) ≤ F sc (7 : Int) + 1) ∧ (F_q sc (8 : Int) + 2 * lz (F_q sc (14 : Int)) ≤ F sc (7 : Int) + 1) ∧ (F_q sc (8 : Int) ≤ F sc (7 : Int)) ∧ (F sc (8 : Int) ≤ F_q sc (8 : Int)) ∧ (szD m_q tg_q ln_q = szD m tg ln + 25 * ((m_q : Int) - (m : Int))) ∧ ((m_q : Int) ≤ (m : Int) + (F_q sc (8 : Int) - F sc (8 : Int)) + (0)) ∧ (F_q pg (9 : Int) ≤ F pg (9 : Int) + ((m_q : Int) - (m : Int))) ∧ (WK F_q gd (21)) ∧ (F_q gd (0 : Int) = 15) ∧ (NP m_q tg_q F_q) ∧ (NM m m_q tg_q) ∧ True) ∨ (∃ (m_q : Nat) (tg_q ln_q : Int → Int) (F_q : Int → Int → Int) (x : Nat), V_q = cV R m_q tg_q ln_q F_q ∧ o = .inr x ∧ Ex m tg ln m_q tg_q ln_q ∧ HC 0 m_q tg_q ln_q F_q ∧ Fq gd [(9, 3), (10, 0), (10, 1), (10, 2), (10, 9), (11, 8), (11, 12), (11, 13), (11, 14), (11, 15), (11, 16), (11, 17), (11, 18)] m tg F F_q ∧ (own m_q (x : Int)) ∧ (tg_q (x : Int) = 16) ∧ (F_q pg (0 : Int) ≠ 0) ∧ (szD m_q tg_q ln_q = szD m tg ln + 25 * ((m_q : Int) - (m : Int))) ∧ ((m_q : Int) ≤ (m : Int) + (F_q sc (8 : Int) - F sc (8 : Int)) + (1)) ∧ (F_q sc (8 : Int) ≤ F sc (7 : Int) + 1) ∧ (NP m_q tg_q F_q) ∧ (NM m m_q tg_q) ∧ True)) := by
  obtain ⟨d, rfl⟩ : ∃ d, dd = d + 1 := ⟨dd - 1, by omega⟩
  refine wk_of (e := jm189) rfl (by rw [jS_r, jS_r, jS_0]; exact Nat.le_of_ble_eq_true rfl) ?_
  rw [la_r, la_r, la_0]
  show wj X d jm189 (0, [(0, rv (me)), (1, rv (gd))], [], cV R m tg ln F) _
  have hM0 : Fq gd [(9, 3), (10, 0), (10, 1), (10, 2), (10, 9), (11, 8), (11, 12), (11, 13), (11, 14), (11, 15), (11, 16), (11, 17), (11, 18)] m tg F F := Fq_r
  have hX0 : Ex m tg ln m tg ln := Ex_r
  obtain ⟨L0, eL0⟩ : ∃ q : jL, q = [(0, rv (me)), (1, rv (gd))] := ⟨_, rfl⟩
  rw [← eL0]
  have g314 : jGet L0 0 = some (rv (me)) := eL0 ▸ (rfl : jGet [(0, rv (me)), (1, rv (gd))] 0 = some (rv (me)))
  have g315 : jGet L0 1 = some (rv (gd)) := eL0 ▸ (rfl : jGet [(0, rv (me)), (1, rv (gd))] 1 = some (rv (gd)))
  clear eL0
  have tb0 := tz_b (F sc (15 : Int))
  have lb0 := lz_b (F sc (14 : Int))
  have ob0 : (0 : Int) ≤ F me (3 : Int) ∧ F me (3 : Int) ≤ 8 := HC_i (c := 8) (q := 3) hC o_me t_me (by decide) rfl
  have tp0 : F me (2 : Int) < 64 + (m : Int) := by
    have z : F me (2 : Int) = 0 ∨ (own m (F me (2 : Int)) ∧ tg (F me (2 : Int)) = 7) := HC_r (c := 8) (q := 2) hC o_me t_me (by decide) rfl
    rcases z with w | w
    · omega
    · exact w.1.2.1
  have nz_gd := own_z o_gd
  refine jx_ld (pc_q := 1) (l_q := L0) (st_q := [rv (me)]) rfl (jl_rvn g314) ?_
  refine cx_gr (pc_q := 4) (c := 8) (q := 1) (v := sc) rfl rfl (by decide) (by decide) rfl rfl o_me t_me e_sc ?_
  refine cx_gi (pc_q := 7) (c := 10) (q := 15) (v := F (sc) (15 : Int)) rfl rfl (by decide) (by decide) (Or.inl rfl) rfl o_sc t_sc rfl ?_
  have b316 : (-2147483648 : Int) ≤ F (sc) (15 : Int) ∧ F (sc) (15 : Int) ≤ 2147483647 := by have z := HC_i (c := 10) (q := 15) hC o_sc t_sc (by decide) rfl; rw [show F (sc) ((15 : Nat) : Int) = F (sc) (15 : Int) from rfl] at z; exact z
  refine jx_ar (pc_q := 8) (st_q := [.int (i32 (2)), .int (i32 (F (sc) (15 : Int)))]) rfl rfl rfl rfl ?_
  refine jx_icmp_ne (pc_q := 11) (tg := 114) rfl rfl rfl (by omega) (by omega) (by decide) (by decide) (fun h317 => ?_) (fun h317 => ?_)
  · have _q := h317
    refine jx_ld (pc_q := 115) (l_q := L0) (st_q := [rv (gd)]) rfl (jl_rvn g315) ?_
    refine jx_ld (pc_q := 116) (l_q := L0) (st_q := [rv (me), rv (gd)]) rfl (jl_rvn g314) ?_
    have b318 : (0 : Int) ≤ F (me) (3 : Int) ∧ F (me) (3 : Int) ≤ 8 := by have z := HC_i (c := 8) (q := 3) hC o_me t_me (by decide) rfl; exact z
    have q319 := tz_b (F (sc) (15 : Int))
    have q320 := lz_b (F (sc) (14 : Int))
    refine cx_vi (c := 8) (a := me) (st := [rv (gd)]) (as := []) rfl rfl rfl o_me t_me (by decide) rfl ⟨rfl, rfl, (by rw [jS_r, jS_0]; exact Nat.le_of_ble_eq_true rfl)⟩ rfl (PEx_all X 9 (dd := d) (R := R) (m := m) (tg := tg) (ln := ln) (F := F) (me := me) (hd := by omega) (hC := hC) (o_me := o_me) (t_me := t_me) (sc := sc) (pg := pg) (o_sc := o_sc) (t_sc := t_sc) (e_sc := e_sc) (o_pg := o_pg) (t_pg := t_pg) (e_pg := e_pg) (p_0 := by omega) (p_1 := by omega) (p_2 := by omega) (p_3 := by omega) (c_NP := c_NP)) (fun o V_q hq => ?_)
    obtain ⟨m321, tg321, ln321, F322, r323, rfl, rfl, hx324, hC325, hM326, b327, p328, p329, p330, p331, p332, p333, p334, p335, p336, p337, p338, c339, c340, -⟩ | ⟨m341, tg341, ln341, F341, x341, rfl, rfl, hx341, hC341, hM341, ho341, ht341, p342, p343, p344, p345, c346, c347, -⟩ := hq
    rotate_left
    ·
      have c348 : NM m m341 tg341 := NM_t NM_0 hx341 c347
      have lm349 := hx341.1
      refine Or.inr (Or.inr (Or.inr ⟨_, _, rfl, cx_exc (c := 15) ho341 ht341 (by decide), rfl, ?_⟩))
      exact Or.inr ⟨m341, tg341, ln341, F341, x341, rfl, rfl, Ex_t hX0 hx341, hC341, Fq_t (ln := ln) (ln1 := ln) hM0 hX0 hM341 (by decide) (Or.inr (Or.inl rfl)), (And.intro ho341 ht341).1, (And.intro ho341 ht341).2, by omega, by omega, by omega, by omega, c346, c348, trivial⟩
    have hM350 : Fq gd [(9, 3), (10, 0), (10, 1), (10, 2), (10, 9), (11, 8), (11, 12), (11, 13), (11, 14), (11, 15), (11, 16), (11, 17), (11, 18)] m tg F F322 := Fq_t (ln := ln) (ln1 := ln) hM0 hX0 hM326 (by decide) (Or.inr (Or.inl rfl))
    have lm351 := hx324.1
    have lt352 : gd < 64 + (m : Int) := o_gd.2.1
    have ho353 : own m321 (me) ∧ tg321 (me) = 9 := Ex_o hx324 ⟨o_me, t_me⟩
    have ho354 : own m321 (gd) ∧ tg321 (gd) = 8 := Ex_o hx324 ⟨o_gd, t_gd⟩
    have ho355 : own m321 (sc) ∧ tg321 (sc) = 11 := Ex_o hx324 ⟨o_sc, t_sc⟩
    have ho356 : own m321 (pg) ∧ tg321 (pg) = 10 := Ex_o hx324 ⟨o_pg, t_pg⟩
    have hX357 := Ex_t hX0 hx324
    have q358 := p336.1
    have q359 := p336.2.1
    have q360 := p336.2.2.1
    have c361 : NM m m321 tg321 := NM_t NM_0 hx324 c340
    refine Or.inr (Or.inl ⟨_, rfl, ?_⟩)
    have q362 := p336.1
    have q363 := p336.2.1
    have q364 := p336.2.2.1
    rw [← cV_gh (F := F322) (a := r323) (j := 100) (z := 20) (Or.inr ⟨by decide, by rw [b327.2]; decide⟩)]
    obtain ⟨F365, eF365⟩ : ∃ q, q = uF F322 (r323) (100 : Int) (20) := ⟨_, rfl⟩
    rw [← eF365]
    have hC366 : HC 0 m321 tg321 ln321 F365 := by rw [eF365]; exact HC_gh hC325 (by rw [b327.2]; decide) (by decide)
    have hM367 : Fq gd [(9, 3), (10, 0), (10, 1), (10, 2), (10, 9), (11, 8), (11, 12), (11, 13), (11, 14), (11, 15), (11, 16), (11, 17), (11, 18)] m tg F F365 := by rw [eF365]; exact Fq_x hM350 (Or.inr (by have := hX357.1; omega))
    rw [← cV_gh (F := F365) (a := r323) (j := 103) (z := 1) (Or.inr ⟨by decide, by rw [b327.2]; decide⟩)]
    obtain ⟨F368, eF368⟩ : ∃ q, q = uF F365 (r323) (103 : Int) (1) := ⟨_, rfl⟩
    rw [← eF368]
    have hC369 : HC 0 m321 tg321 ln321 F368 := by rw [eF368]; exact HC_gh hC366 (by rw [b327.2]; decide) (by decide)
    have hM370 : Fq gd [(9, 3), (10, 0), (10, 1), (10, 2), (10, 9), (11, 8), (11, 12), (11, 13), (11, 14), (11, 15), (11, 16), (11, 17), (11, 18)] m tg F F368 := by rw [eF368]; exact Fq_x hM367 (Or.inr (by have := hX357.1; omega))
    have c371 : NP m321 tg321 F368 := by rw [eF368, eF365]; exact NP_seal hC325 c339 b327.1 b327.2 p336 (by omega)
    refine cx_po (pc_q := 122) (c := 7) (q := 4) (qi := (4 : Int)) (z := r323) rfl rfl (by decide) (by decide) rfl rfl rfl (by decide) rfl ho354.1 ho354.2 rfl ?_
    obtain ⟨F372, eF372⟩ : ∃ q, q = uF F368 (gd) (4 : Int) (r323) := ⟨_, rfl⟩
    rw [← eF372]
    have hC373 : HC 0 m321 tg321 ln321 F372 := by rw [eF372]; exact HC_fr (c := 7) (q := 4) (by decide) hC369 ho354.2 (by decide) rfl (Or.inr ⟨b327.1, b327.2⟩) ⟨fun w => absurd w (by decide), fun w => absurd w (by decide)⟩
    have hM374 : Fq gd [(9, 3), (10, 0), (10, 1), (10, 2), (10, 9), (11, 8), (11, 12), (11, 13), (11, 14), (11, 15), (11, 16), (11, 17), (11, 18)] m tg F F372 := by rw [eF372]; exact Fq_x hM370 (Or.inl rfl)
    have c375 : NP m321 tg321 F372 := by rw [eF372]; exact NP_un hC369 c371 ho354.1 ho354.2 (by rw [show F368 (gd) (103 : Int) = F (gd) (103 : Int) from ((show F368 (gd) (103 : Int) = F365 (gd) (103 : Int) from by rw [eF368]; exact uF_a (by omega)).trans ((show F365 (gd) (103 : Int) = F322 (gd) (103 : Int) from by rw [eF365]; exact uF_j (by decide)).trans (show F322 (gd) (103 : Int) = F (gd) (103 : Int) from hM326 _ _ o_gd (own_z o_gd) (by rw [t_gd]; rfl))))]; omega) (by decide) (Or.inl (by decide))
    have q376 : F372 (sc) (8 : Int) = F322 (sc) (8 : Int) := ((show F372 (sc) (8 : Int) = F368 (sc) (8 : Int) from by rw [eF372]; exact uF_j (by decide)).trans ((show F368 (sc) (8 : Int) = F365 (sc) (8 : Int) from by rw [eF368]; exact uF_j (by decide)).trans (show F365 (sc) (8 : Int) = F322 (sc) (8 : Int) from by rw [eF365]; exact uF_j (by decide))))
    have q377 : F372 (sc) (15 : Int) = F322 (sc) (15 : Int) := ((show F372 (sc) (15 : Int) = F368 (sc) (15 : Int) from by rw [eF372]; exact uF_j (by decide)).trans ((show F368 (sc) (15 : Int) = F365 (sc) (15 : Int) from by rw [eF368]; exact uF_j (by decide)).trans (show F365 (sc) (15 : Int) = F322 (sc) (15 : Int) from by rw [eF365]; exact uF_j (by decide))))
    have q378 : tz (F372 (sc) (15 : Int)) = tz (F322 (sc) (15 : Int)) := by rw [q377]
    have q379 := tz_b (F322 (sc) (15 : Int))
    have q380 : F372 (sc) (14 : Int) = F322 (sc) (14 : Int) := ((show F372 (sc) (14 : Int) = F368 (sc) (14 : Int) from by rw [eF372]; exact uF_j (by decide)).trans ((show F368 (sc) (14 : Int) = F365 (sc) (14 : Int) from by rw [eF368]; exact uF_j (by decide)).trans (show F365 (sc) (14 : Int) = F322 (sc) (14 : Int) from by rw [eF365]; exact uF_j (by decide))))
    have q381 : lz (F372 (sc) (14 : Int)) = lz (F322 (sc) (14 : Int)) := by rw [q380]
    have q382 := lz_b (F322 (sc) (14 : Int))
    have q383 : F372 (pg) (9 : Int) = F322 (pg) (9 : Int) := ((show F372 (pg) (9 : Int) = F368 (pg) (9 : Int) from by rw [eF372]; exact uF_j (by decide)).trans ((show F368 (pg) (9 : Int) = F365 (pg) (9 : Int) from by rw [eF368]; exact uF_j (by decide)).trans (show F365 (pg) (9 : Int) = F322 (pg) (9 : Int) from by rw [eF365]; exact uF_j (by decide))))
    have q384 : F372 (gd) (0 : Int) = F (gd) (0 : Int) := ((show F372 (gd) (0 : Int) = F368 (gd) (0 : Int) from by rw [eF372]; exact uF_j (by decide)).trans ((show F368 (gd) (0 : Int) = F365 (gd) (0 : Int) from by rw [eF368]; exact uF_j (by decide)).trans ((show F365 (gd) (0 : Int) = F322 (gd) (0 : Int) from by rw [eF365]; exact uF_j (by decide)).trans (show F322 (gd) (0 : Int) = F (gd) (0 : Int) from hM326 _ _ o_gd (own_z o_gd) (by rw [t_gd]; rfl)))))
    exact k_LParser_readGuard_at_122 (X := X) (d := d) (R := R) (m := m) (tg := tg) (ln := ln) (F := F) (me := me) (gd := gd) (hd := hd) (hC := hC) (sc := sc) (pg := pg) (o_sc := o_sc) (t_sc := t_sc) (e_sc := e_sc) (o_pg := o_pg) (t_pg := t_pg) (e_pg := e_pg) (o_me := o_me) (t_me := t_me) (o_gd := o_gd) (t_gd := t_gd) (p_0 := p_0) (p_1 := p_1) (p_2 := p_2) (p_3 := p_3) (p_4 := p_4) (p_5 := p_5) (p_6 := p_6) (p_7 := p_7) (p_8 := p_8) (p_9 := p_9) (p_10 := p_10) (c_NP := c_NP) L0 m321 tg321 ln321 F372 g314 g315 hX357 hC373 hM374 (by omega) (by omega) (by omega) (by omega) (by omega) (by omega) (by omega) (by omega) c375 c361 (WK_i (K := 21) (by rw [show F372 (gd) (103 : Int) = F (gd) (103 : Int) from ((show F372 (gd) (103 : Int) = F368 (gd) (103 : Int) from by rw [eF372]; exact uF_j (by decide)).trans ((show F368 (gd) (103 : Int) = F365 (gd) (103 : Int) from by rw [eF368]; exact uF_a (by omega)).trans ((show F365 (gd) (103 : Int) = F322 (gd) (103 : Int) from by rw [eF365]; exact uF_j (by decide)).trans (show F322 (gd) (103 : Int) = F (gd) (103 : Int) from hM326 _ _ o_gd (own_z o_gd) (by rw [t_gd]; rfl)))))]; omega) (by rw [show F372 (gd) (101 : Int) = F (gd) (101 : Int) from ((show F372 (gd) (101 : Int) = F368 (gd) (101 : Int) from by rw [eF372]; exact uF_j (by decide)).trans ((show F368 (gd) (101 : Int) = F365 (gd) (101 : Int) from by rw [eF368]; exact uF_j (by decide)).trans ((show F365 (gd) (101 : Int) = F322 (gd) (101 : Int) from by rw [eF365]; exact uF_j (by decide)).trans (show F322 (gd) (101 : Int) = F (gd) (101 : Int) from hM326 _ _ o_gd (own_z o_gd) (by rw [t_gd]; rfl)))))]; omega) (by rw [show F372 (gd) (8 : Int) = F (gd) (8 : Int) from ((show F372 (gd) (8 : Int) = F368 (gd) (8 : Int) from by rw [eF372]; exact uF_j (by decide)).trans ((show F368 (gd) (8 : Int) = F365 (gd) (8 : Int) from by rw [eF368]; exact uF_j (by decide)).trans ((show F365 (gd) (8 : Int) = F322 (gd) (8 : Int) from by rw [eF365]; exact uF_j (by decide)).trans (show F322 (gd) (8 : Int) = F (gd) (8 : Int) from hM326 _ _ o_gd (own_z o_gd) (by rw [t_gd]; rfl)))))]; omega) (Or.inr (by rw [show F372 (gd) (4 : Int) = r323 from (show F372 (gd) (4 : Int) = r323 from by rw [eF372]; exact uF_e)]; exact ⟨((show F372 (r323) (103 : Int) = F368 (r323) (103 : Int) from by rw [eF372]; exact uF_j (by decide)).trans (show F368 (r323) (103 : Int) = 1 from by rw [eF368]; exact uF_e)), (by rw [show F372 (r323) (100 : Int) = 20 from ((show F372 (r323) (100 : Int) = F368 (r323) (100 : Int) from by rw [eF372]; exact uF_j (by decide)).trans ((show F368 (r323) (100 : Int) = F365 (r323) (100 : Int) from by rw [eF368]; exact uF_j (by decide)).trans (show F365 (r323) (100 : Int) = 20 from by rw [eF365]; exact uF_e)))]; omega), (by rw [show F372 (r323) (100 : Int) = 20 from ((show F372 (r323) (100 : Int) = F368 (r323) (100 : Int) from by rw [eF372]; exact uF_j (by decide)).trans ((show F368 (r323) (100 : Int) = F365 (r323) (100 : Int) from by rw [eF368]; exact uF_j (by decide)).trans (show F365 (r323) (100 : Int) = 20 from by rw [eF365]; exact uF_e)))]; omega)⟩)) (Or.inl (by rw [show F372 (gd) (5 : Int) = F (gd) (5 : Int) from ((show F372 (gd) (5 : Int) = F368 (gd) (5 : Int) from by rw [eF372]; exact uF_j (by decide)).trans ((show F368 (gd) (5 : Int) = F365 (gd) (5 : Int) from by rw [eF368]; exact uF_j (by decide)).trans ((show F365 (gd) (5 : Int) = F322 (gd) (5 : Int) from by rw [eF365]; exact uF_j (by decide)).trans (show F322 (gd) (5 : Int) = F (gd) (5 : Int) from hM326 _ _ o_gd (own_z o_gd) (by rw [t_gd]; rfl)))))]; omega)) (Or.inl (by rw [show F372 (gd) (6 : Int) = F (gd) (6 : Int) from ((show F372 (gd) (6 : Int) = F368 (gd) (6 : Int) from by rw [eF372]; exact uF_j (by decide)).trans ((show F368 (gd) (6 : Int) = F365 (gd) (6 : Int) from by rw [eF368]; exact uF_j (by decide)).trans ((show F365 (gd) (6 : Int) = F322 (gd) (6 : Int) from by rw [eF365]; exact uF_j (by decide)).trans (show F322 (gd) (6 : Int) = F (gd) (6 : Int) from hM326 _ _ o_gd (own_z o_gd) (by rw [t_gd]; rfl)))))]; omega)) (Or.inl (by rw [show F372 (gd) (7 : Int) = F (gd) (7 : Int) from ((show F372 (gd) (7 : Int) = F368 (gd) (7 : Int) from by rw [eF372]; exact uF_j (by decide)).trans ((show F368 (gd) (7 : Int) = F365 (gd) (7 : Int) from by rw [eF368]; exact uF_j (by decide)).trans ((show F365 (gd) (7 : Int) = F322 (gd) (7 : Int) from by rw [eF365]; exact uF_j (by decide)).trans (show F322 (gd) (7 : Int) = F (gd) (7 : Int) from hM326 _ _ o_gd (own_z o_gd) (by rw [t_gd]; rfl)))))]; omega)) (Or.inl (by rw [show F372 (gd) (0 : Int) = F (gd) (0 : Int) from q384]; omega)))
  · have _q := h317
    have t385 : tz (F (sc) (15 : Int)) = 1 := tz_p (by omega)
    refine jx_ld (pc_q := 12) (l_q := L0) (st_q := [rv (me)]) rfl (jl_rvn g314) ?_
    refine cx_gr (pc_q := 15) (c := 8) (q := 1) (v := sc) rfl rfl (by decide) (by decide) rfl rfl o_me t_me e_sc ?_
    refine cx_gi (pc_q := 18) (c := 10) (q := 16) (v := F (sc) (16 : Int)) rfl rfl (by decide) (by decide) (Or.inl rfl) rfl o_sc t_sc rfl ?_
    have b386 : (-2147483648 : Int) ≤ F (sc) (16 : Int) ∧ F (sc) (16 : Int) ≤ 2147483647 := by have z := HC_i (c := 10) (q := 16) hC o_sc t_sc (by decide) rfl; rw [show F (sc) ((16 : Nat) : Int) = F (sc) (16 : Int) from rfl] at z; exact z
    refine jx_ld (pc_q := 19) (l_q := jSto1 L0 2 (.int (i32 (F (sc) (16 : Int))))) (st_q := []) rfl rfl ?_
    obtain ⟨L387, eL387⟩ : ∃ q : jL, q = jSto1 L0 2 (.int (i32 (F (sc) (16 : Int)))) := ⟨_, rfl⟩
    rw [← eL387]
    have g388 : jGet L387 0 = some (rv (me)) := eL387 ▸ jg_nr (by decide) g314
    have g389 : jGet L387 1 = some (rv (gd)) := eL387 ▸ jg_nr (by decide) g315
    have g390 : jGet L387 2 = some (.int (i32 (F (sc) (16 : Int)))) := eL387 ▸ jg_eq
    clear eL387
    refine jx_ld (pc_q := 20) (l_q := L387) (st_q := [rv (me)]) rfl (jl_rvn g388) ?_
    have b391 : (0 : Int) ≤ F (me) (3 : Int) ∧ F (me) (3 : Int) ≤ 8 := by have z := HC_i (c := 8) (q := 3) hC o_me t_me (by decide) rfl; exact z
    have q392 := tz_b (F (sc) (15 : Int))
    have q393 := lz_b (F (sc) (14 : Int))
    refine cx_vi (c := 8) (a := me) (st := []) (as := []) rfl rfl rfl o_me t_me (by decide) rfl ⟨rfl, rfl, (Nat.le_of_ble_eq_true rfl)⟩ rfl (k_LParser_unjudged (dd := d) (R := R) (m := m) (tg := tg) (ln := ln) (F := F) (kk := 9) (hE := fun _ => PEx_all X _) (me := me) (hd := by omega) (hC := hC) (o_me := o_me) (t_me := t_me) (sc := sc) (pg := pg) (o_sc := o_sc) (t_sc := t_sc) (e_sc := e_sc) (o_pg := o_pg) (t_pg := t_pg) (e_pg := e_pg) (p_0 := by omega) (p_1 := by omega) (p_2 := by omega) (p_3 := by omega) (p_4 := by omega) (c_NP := c_NP)) (fun o V_q hq => ?_)
    obtain ⟨m394, tg394, ln394, F395, r396, rfl, rfl, hx397, hC398, hM399, b400, p401, p402, p403, p404, p405, p406, p407, p408, p409, p410, p411, p412, c413, c414, -⟩ | ⟨m415, tg415, ln415, F415, x415, rfl, rfl, hx415, hC415, hM415, ho415, ht415, p416, p417, p418, p419, c420, c421, -⟩ := hq
    rotate_left
    ·
      have c422 : NM m m415 tg415 := NM_t NM_0 hx415 c421
      have lm423 := hx415.1
      refine Or.inr (Or.inr (Or.inr ⟨_, _, rfl, cx_exc (c := 15) ho415 ht415 (by decide), rfl, ?_⟩))
      exact Or.inr ⟨m415, tg415, ln415, F415, x415, rfl, rfl, Ex_t hX0 hx415, hC415, Fq_t (ln := ln) (ln1 := ln) hM0 hX0 hM415 (by decide) (Or.inr (Or.inl rfl)), (And.intro ho415 ht415).1, (And.intro ho415 ht415).2, by omega, by omega, by omega, by omega, c420, c422, trivial⟩
    have hM424 : Fq gd [(9, 3), (10, 0), (10, 1), (10, 2), (10, 9), (11, 8), (11, 12), (11, 13), (11, 14), (11, 15), (11, 16), (11, 17), (11, 18)] m tg F F395 := Fq_t (ln := ln) (ln1 := ln) hM0 hX0 hM399 (by decide) (Or.inr (Or.inl rfl))
    have lm425 := hx397.1
    have lt426 : gd < 64 + (m : Int) := o_gd.2.1
    have ho427 : own m394 (me) ∧ tg394 (me) = 9 := Ex_o hx397 ⟨o_me, t_me⟩
    have ho428 : own m394 (gd) ∧ tg394 (gd) = 8 := Ex_o hx397 ⟨o_gd, t_gd⟩
    have ho429 : own m394 (sc) ∧ tg394 (sc) = 11 := Ex_o hx397 ⟨o_sc, t_sc⟩
    have ho430 : own m394 (pg) ∧ tg394 (pg) = 10 := Ex_o hx397 ⟨o_pg, t_pg⟩
    have hX431 := Ex_t hX0 hx397
    have q432 := p409.1
    have q433 := p409.2.1
    have q434 := p409.2.2.1
    have c435 : NM m m394 tg394 := NM_t NM_0 hx397 c414
    refine Or.inr (Or.inl ⟨_, rfl, ?_⟩)
    refine jx_ld (pc_q := 24) (l_q := jSto1 L387 3 (rv (r396))) (st_q := []) rfl (js_rvn (by decide)) ?_
    obtain ⟨L436, eL436⟩ : ∃ q : jL, q = jSto1 L387 3 (rv (r396)) := ⟨_, rfl⟩
    rw [← eL436]
    have g437 : jGet L436 0 = some (rv (me)) := eL436 ▸ jg_nr (by decide) g388
    have g438 : jGet L436 1 = some (rv (gd)) := eL436 ▸ jg_nr (by decide) g389
    have g439 : jGet L436 2 = some (.int (i32 (F (sc) (16 : Int)))) := eL436 ▸ jg_ne (by decide) g390 rfl
    have g440 : jGet L436 3 = some (rv (r396)) := eL436 ▸ jg_eq
    clear eL436
    refine jx_ld (pc_q := 25) (l_q := L436) (st_q := [rv (me)]) rfl (jl_rvn g437) ?_
    refine cx_gr (pc_q := 28) (c := 8) (q := 1) (v := sc) rfl rfl (by decide) (by decide) rfl rfl ho427.1 ho427.2 ((show F395 (me) (1 : Int) = F (me) (1 : Int) from hM399 _ _ o_me (own_z o_me) (by rw [t_me]; rfl)).trans e_sc) ?_
    refine cx_gi (pc_q := 31) (c := 10) (q := 15) (v := F395 (sc) (15 : Int)) rfl rfl (by decide) (by decide) (Or.inl rfl) rfl ho429.1 ho429.2 rfl ?_
    have b441 : (-2147483648 : Int) ≤ F395 (sc) (15 : Int) ∧ F395 (sc) (15 : Int) ≤ 2147483647 := by have z := HC_i (c := 10) (q := 15) hC398 ho429.1 ho429.2 (by decide) rfl; rw [show F395 (sc) ((15 : Nat) : Int) = F395 (sc) (15 : Int) from rfl] at z; exact z
    refine jx_ar (pc_q := 33) (st_q := [.int (i32 (51)), .int (i32 (F395 (sc) (15 : Int)))]) rfl rfl rfl rfl ?_
    refine jx_icmp_ne (pc_q := 36) (tg := 63) rfl rfl rfl (by omega) (by omega) (by decide) (by decide) (fun h442 => ?_) (fun h442 => ?_)
    · have _q := h442
      refine jx_ld (pc_q := 64) (l_q := L436) (st_q := [rv (me)]) rfl (jl_rvn g437) ?_
      refine cx_gr (pc_q := 67) (c := 8) (q := 1) (v := sc) rfl rfl (by decide) (by decide) rfl rfl ho427.1 ho427.2 ((show F395 (me) (1 : Int) = F (me) (1 : Int) from hM399 _ _ o_me (own_z o_me) (by rw [t_me]; rfl)).trans e_sc) ?_
      refine cx_gi (pc_q := 70) (c := 10) (q := 15) (v := F395 (sc) (15 : Int)) rfl rfl (by decide) (by decide) (Or.inl rfl) rfl ho429.1 ho429.2 rfl ?_
      refine jx_ar (pc_q := 72) (st_q := [.int (i32 (66)), .int (i32 (F395 (sc) (15 : Int)))]) rfl rfl rfl rfl ?_
      refine jx_icmp_eq (pc_q := 75) (tg := 89) rfl rfl rfl (by omega) (by omega) (by decide) (by decide) (fun h443 => ?_) (fun h443 => ?_)
      · have _q := h443
        have t444 : tz (F395 (sc) (15 : Int)) = 1 := tz_p (by omega)
        refine jx_ld (pc_q := 90) (l_q := L436) (st_q := [rv (me)]) rfl (jl_rvn g437) ?_
        refine jx_ld (pc_q := 91) (l_q := L436) (st_q := [rv (r396), rv (me)]) rfl (jl_rvn g440) ?_
        refine jx_ld (pc_q := 92) (l_q := L436) (st_q := [rv (r396), rv (r396), rv (me)]) rfl (jl_rvn g440) ?_
        refine cx_gr (pc_q := 95) (c := 7) (q := 3) (v := F395 (r396) (3 : Int)) rfl rfl (by decide) (by decide) rfl rfl b400.1 b400.2 rfl ?_
        have y445 : F395 (r396) (3 : Int) = 0 ∨ (own m394 (F395 (r396) (3 : Int)) ∧ tg394 (F395 (r396) (3 : Int)) = 7) := by have z := HC_r (c := 7) (q := 3) hC398 b400.1 b400.2 (by decide) rfl; rw [show F395 (r396) ((3 : Nat) : Int) = F395 (r396) (3 : Int) from rfl] at z; exact z
        have hn446 : F395 (r396) (3 : Int) ≠ 0 := by omega
        have ho447 : own m394 (F395 (r396) (3 : Int)) ∧ tg394 (F395 (r396) (3 : Int)) = 7 := y445.resolve_left hn446
        refine cx_vi (c := 6) (a := F395 (r396) (3 : Int)) (st := [rv (r396), rv (me)]) (as := []) rfl rfl rfl ho447.1 ho447.2 (by decide) rfl ⟨rfl, rfl, (by rw [jS_r, jS_r, jS_0]; exact Nat.le_of_ble_eq_true rfl)⟩ rfl (k_LName_isValue (dd := d) (R := R) (m := m394) (tg := tg394) (ln := ln394) (F := F395) (me := F395 (r396) (3 : Int)) (hd := by omega) (hC := hC398) (o_me := ho447.1) (t_me := ho447.2)) (fun o V_q hq => ?_)
        obtain ⟨r448, rfl, rfl, b449, -⟩ := hq
        refine Or.inr (Or.inl ⟨_, rfl, ?_⟩)
        refine jx_ld (pc_q := 99) (l_q := L436) (st_q := [.int (i32 (F (sc) (16 : Int))), .int (i32 (r448)), rv (r396), rv (me)]) rfl (jl_iloadn g439) ?_
        have q450 := tz_b (F395 (sc) (15 : Int))
        have q451 : F395 (sc) (7 : Int) = F (sc) (7 : Int) := (show F395 (sc) (7 : Int) = F (sc) (7 : Int) from hM399 _ _ o_sc (own_z o_sc) (by rw [t_sc]; rfl))
        have q452 := lz_b (F395 (sc) (14 : Int))
        refine cx_vi (c := 8) (a := me) (st := []) (as := [rv (r396), .int (i32 (r448)), .int (i32 (F (sc) (16 : Int)))]) rfl rfl rfl ho427.1 ho427.2 (by decide) rfl ⟨rfl, rfl, (Nat.le_of_ble_eq_true rfl)⟩ rfl (k_LParser_judge (dd := d) (R := R) (m := m394) (tg := tg394) (ln := ln394) (F := F395) (me := me) (pt := r396) (wa := r448) (pl := F (sc) (16 : Int)) (hd := by omega) (hC := hC398) (o_me := ho427.1) (t_me := ho427.2) (o_pt := b400.1) (t_pt := b400.2) (h_wa := by omega) (h_pl := by omega) (sc := sc) (pg := pg) (o_sc := ho429.1) (t_sc := ho429.2) (e_sc := ((show F395 (me) (1 : Int) = F (me) (1 : Int) from hM399 _ _ o_me (own_z o_me) (by rw [t_me]; rfl)).trans e_sc)) (o_pg := ho430.1) (t_pg := ho430.2) (e_pg := ((show F395 (me) (0 : Int) = F (me) (0 : Int) from hM399 _ _ o_me (own_z o_me) (by rw [t_me]; rfl)).trans e_pg)) (p_0 := by omega) (p_1 := by omega) (p_2 := by omega) (p_3 := by omega) (c_NP := c413)) (fun o V_q hq => ?_)
        obtain ⟨m453, tg453, ln453, F454, rfl, rfl, hx455, hC456, hM457, p458, p459, p460, p461, p462, p463, p464, c465, c466, -⟩ | ⟨m467, tg467, ln467, F467, x467, rfl, rfl, hx467, hC467, hM467, ho467, ht467, p468, p469, p470, p471, c472, c473, -⟩ := hq
        rotate_left
        ·
          have c474 : NM m m467 tg467 := NM_t c435 hx467 c473
          have lm475 := hx467.1
          refine Or.inr (Or.inr (Or.inr ⟨_, _, rfl, cx_exc (c := 15) ho467 ht467 (by decide), rfl, ?_⟩))
          have q476 : F395 (sc) (7 : Int) = F (sc) (7 : Int) := q451
          exact Or.inr ⟨m467, tg467, ln467, F467, x467, rfl, rfl, Ex_t hX431 hx467, hC467, Fq_t (ln := ln) (ln1 := ln394) hM424 hX431 hM467 (by decide) (Or.inr (Or.inl rfl)), (And.intro ho467 ht467).1, (And.intro ho467 ht467).2, by omega, by omega, by omega, by omega, c472, c474, trivial⟩
        have hM477 : Fq gd [(9, 3), (10, 0), (10, 1), (10, 2), (10, 9), (11, 8), (11, 12), (11, 13), (11, 14), (11, 15), (11, 16), (11, 17), (11, 18)] m tg F F454 := Fq_t (ln := ln) (ln1 := ln394) hM424 hX431 hM457 (by decide) (Or.inr (Or.inl rfl))
        have lm478 := hx455.1
        have lt479 : gd < 64 + (m394 : Int) := ho428.1.2.1
        have lt480 : r396 < 64 + (m394 : Int) := b400.1.2.1
        have ho481 : own m453 (me) ∧ tg453 (me) = 9 := Ex_o hx455 ⟨ho427.1, ho427.2⟩
        have ho482 : own m453 (gd) ∧ tg453 (gd) = 8 := Ex_o hx455 ⟨ho428.1, ho428.2⟩
        have ho483 : own m453 (r396) ∧ tg453 (r396) = 8 := Ex_o hx455 ⟨b400.1, b400.2⟩
        have ho484 : own m453 (sc) ∧ tg453 (sc) = 11 := Ex_o hx455 ⟨ho429.1, ho429.2⟩
        have ho485 : own m453 (pg) ∧ tg453 (pg) = 10 := Ex_o hx455 ⟨ho430.1, ho430.2⟩
        have hX486 := Ex_t hX431 hx455
        have w487 : WK F454 r396 (17 - 2 * F me (3 : Int)) := WK_q p409 hC398 b400.1 b400.2 hM457 rfl
        have c488 : NM m m453 tg453 := NM_t c435 hx455 c466
        refine Or.inl ⟨rfl, ?_⟩
        refine jx_ld (pc_q := 103) (l_q := L436) (st_q := [rv (gd)]) rfl (jl_rvn g438) ?_
        refine jx_ld (pc_q := 104) (l_q := L436) (st_q := [rv (me), rv (gd)]) rfl (jl_rvn g437) ?_
        refine jx_ld (pc_q := 105) (l_q := L436) (st_q := [rv (r396), rv (me), rv (gd)]) rfl (jl_rvn g440) ?_
        have b489 : (0 : Int) ≤ F395 (me) (3 : Int) ∧ F395 (me) (3 : Int) ≤ 8 := by have z := HC_i (c := 8) (q := 3) hC456 ho481.1 ho481.2 (by decide) rfl; rw [show F454 (me) ((3 : Nat) : Int) = F395 (me) (3 : Int) from (show F454 (me) (3 : Int) = F395 (me) (3 : Int) from hM457 _ _ ho427.1 (own_z ho427.1) (by rw [ho427.2]; rfl))] at z; exact z
        have q490 : F454 (sc) (8 : Int) = F395 (sc) (8 : Int) := (show F454 (sc) (8 : Int) = F395 (sc) (8 : Int) from hM457 _ _ ho429.1 (own_z ho429.1) (by rw [ho429.2]; rfl))
        have q491 : F454 (sc) (15 : Int) = F395 (sc) (15 : Int) := (show F454 (sc) (15 : Int) = F395 (sc) (15 : Int) from hM457 _ _ ho429.1 (own_z ho429.1) (by rw [ho429.2]; rfl))
        have q492 : tz (F454 (sc) (15 : Int)) = tz (F395 (sc) (15 : Int)) := by rw [q491]
        have q493 := tz_b (F395 (sc) (15 : Int))
        have q494 : F454 (sc) (7 : Int) = F (sc) (7 : Int) := ((show F454 (sc) (7 : Int) = F395 (sc) (7 : Int) from hM457 _ _ ho429.1 (own_z ho429.1) (by rw [ho429.2]; rfl)).trans q451)
        have q495 : F454 (sc) (14 : Int) = F395 (sc) (14 : Int) := (show F454 (sc) (14 : Int) = F395 (sc) (14 : Int) from hM457 _ _ ho429.1 (own_z ho429.1) (by rw [ho429.2]; rfl))
        have q496 : lz (F454 (sc) (14 : Int)) = lz (F395 (sc) (14 : Int)) := by rw [q495]
        have q497 := lz_b (F395 (sc) (14 : Int))
        have q498 : F454 (me) (3 : Int) = F395 (me) (3 : Int) := (show F454 (me) (3 : Int) = F395 (me) (3 : Int) from hM457 _ _ ho427.1 (own_z ho427.1) (by rw [ho427.2]; rfl))
        have q499 : F454 (r396) (0 : Int) = F395 (r396) (0 : Int) := (show F454 (r396) (0 : Int) = F395 (r396) (0 : Int) from hM457 _ _ b400.1 (own_z b400.1) (by rw [b400.2]; rfl))
        have q500 : F454 (pg) (9 : Int) = F395 (pg) (9 : Int) := (show F454 (pg) (9 : Int) = F395 (pg) (9 : Int) from hM457 _ _ ho430.1 (own_z ho430.1) (by rw [ho430.2]; rfl))
        refine cx_vi (c := 8) (a := me) (st := [rv (gd)]) (as := [rv (r396)]) rfl rfl rfl ho481.1 ho481.2 (by decide) rfl ⟨rfl, rfl, (by rw [jS_r, jS_0]; exact Nat.le_of_ble_eq_true rfl)⟩ rfl (k_LParser_operated (dd := d) (R := R) (m := m453) (tg := tg453) (ln := ln453) (F := F454) (kk := 9) (hE := fun _ => PEx_all X _) (me := me) (lf := r396) (hd := by omega) (hC := hC456) (o_me := ho481.1) (t_me := ho481.2) (o_lf := ho483.1) (t_lf := ho483.2) (sc := sc) (pg := pg) (o_sc := ho484.1) (t_sc := ho484.2) (e_sc := (((show F454 (me) (1 : Int) = F395 (me) (1 : Int) from hM457 _ _ ho427.1 (own_z ho427.1) (by rw [ho427.2]; rfl)).trans (show F395 (me) (1 : Int) = F (me) (1 : Int) from hM399 _ _ o_me (own_z o_me) (by rw [t_me]; rfl))).trans e_sc)) (o_pg := ho485.1) (t_pg := ho485.2) (e_pg := (((show F454 (me) (0 : Int) = F395 (me) (0 : Int) from hM457 _ _ ho427.1 (own_z ho427.1) (by rw [ho427.2]; rfl)).trans (show F395 (me) (0 : Int) = F (me) (0 : Int) from hM399 _ _ o_me (own_z o_me) (by rw [t_me]; rfl))).trans e_pg)) (p_0 := by omega) (p_1 := by omega) (p_2 := by omega) (p_3 := by omega) (p_4 := by omega) (wk_lf := (WK_m w487 (by omega))) (c_NP := c465)) (fun o V_q hq => ?_)
        obtain ⟨m501, tg501, ln501, F502, r503, rfl, rfl, hx504, hC505, hM506, b507, p508, p509, p510, p511, p512, p513, p514, p515, p516, p517, p518, c519, c520, -⟩ | ⟨m521, tg521, ln521, F521, x521, rfl, rfl, hx521, hC521, hM521, ho521, ht521, p522, p523, p524, p525, c526, c527, -⟩ := hq
        rotate_left
        ·
          have c528 : NM m m521 tg521 := NM_t c488 hx521 c527
          have lm529 := hx521.1
          refine Or.inr (Or.inr (Or.inr ⟨_, _, rfl, cx_exc (c := 15) ho521 ht521 (by decide), rfl, ?_⟩))
          have q530 : F454 (sc) (8 : Int) = F395 (sc) (8 : Int) := q490
          have q531 : F454 (sc) (7 : Int) = F (sc) (7 : Int) := q494
          exact Or.inr ⟨m521, tg521, ln521, F521, x521, rfl, rfl, Ex_t hX486 hx521, hC521, Fq_t (ln := ln) (ln1 := ln453) hM477 hX486 hM521 (by decide) (Or.inr (Or.inr (by have := hX431.1; omega))), (And.intro ho521 ht521).1, (And.intro ho521 ht521).2, by omega, by omega, by omega, by omega, c526, c528, trivial⟩
        have hM532 : Fq gd [(9, 3), (10, 0), (10, 1), (10, 2), (10, 9), (11, 8), (11, 12), (11, 13), (11, 14), (11, 15), (11, 16), (11, 17), (11, 18)] m tg F F502 := Fq_t (ln := ln) (ln1 := ln453) hM477 hX486 hM506 (by decide) (Or.inr (Or.inr (by have := hX431.1; omega)))
        have lm533 := hx504.1
        have lt534 : gd < 64 + (m453 : Int) := ho482.1.2.1
        have lt535 : r396 < 64 + (m453 : Int) := ho483.1.2.1
        have ho536 : own m501 (me) ∧ tg501 (me) = 9 := Ex_o hx504 ⟨ho481.1, ho481.2⟩
        have ho537 : own m501 (gd) ∧ tg501 (gd) = 8 := Ex_o hx504 ⟨ho482.1, ho482.2⟩
        have ho538 : own m501 (r396) ∧ tg501 (r396) = 8 := Ex_o hx504 ⟨ho483.1, ho483.2⟩
        have ho539 : own m501 (sc) ∧ tg501 (sc) = 11 := Ex_o hx504 ⟨ho484.1, ho484.2⟩
        have ho540 : own m501 (pg) ∧ tg501 (pg) = 10 := Ex_o hx504 ⟨ho485.1, ho485.2⟩
        have hX541 := Ex_t hX486 hx504
        have q542 := p516.1
        have q543 := p516.2.1
        have q544 := p516.2.2.1
        have c545 : NM m m501 tg501 := NM_t c488 hx504 c520
        refine Or.inr (Or.inl ⟨_, rfl, ?_⟩)
        have q546 := p516.1
        have q547 := p516.2.1
        have q548 := p516.2.2.1
        rw [← cV_gh (F := F502) (a := r503) (j := 100) (z := 20) (Or.inr ⟨by decide, by rw [b507.2]; decide⟩)]
        obtain ⟨F549, eF549⟩ : ∃ q, q = uF F502 (r503) (100 : Int) (20) := ⟨_, rfl⟩
        rw [← eF549]
        have hC550 : HC 0 m501 tg501 ln501 F549 := by rw [eF549]; exact HC_gh hC505 (by rw [b507.2]; decide) (by decide)
        have hM551 : Fq gd [(9, 3), (10, 0), (10, 1), (10, 2), (10, 9), (11, 8), (11, 12), (11, 13), (11, 14), (11, 15), (11, 16), (11, 17), (11, 18)] m tg F F549 := by rw [eF549]; exact Fq_x hM532 (Or.inr (by have := hX541.1; omega))
        rw [← cV_gh (F := F549) (a := r503) (j := 103) (z := 1) (Or.inr ⟨by decide, by rw [b507.2]; decide⟩)]
        obtain ⟨F552, eF552⟩ : ∃ q, q = uF F549 (r503) (103 : Int) (1) := ⟨_, rfl⟩
        rw [← eF552]
        have hC553 : HC 0 m501 tg501 ln501 F552 := by rw [eF552]; exact HC_gh hC550 (by rw [b507.2]; decide) (by decide)
        have hM554 : Fq gd [(9, 3), (10, 0), (10, 1), (10, 2), (10, 9), (11, 8), (11, 12), (11, 13), (11, 14), (11, 15), (11, 16), (11, 17), (11, 18)] m tg F F552 := by rw [eF552]; exact Fq_x hM551 (Or.inr (by have := hX541.1; omega))
        have c555 : NP m501 tg501 F552 := by rw [eF552, eF549]; exact NP_seal hC505 c519 b507.1 b507.2 p516 (by omega)
        refine cx_po (pc_q := 111) (c := 7) (q := 4) (qi := (4 : Int)) (z := r503) rfl rfl (by decide) (by decide) rfl rfl rfl (by decide) rfl ho537.1 ho537.2 rfl ?_
        obtain ⟨F556, eF556⟩ : ∃ q, q = uF F552 (gd) (4 : Int) (r503) := ⟨_, rfl⟩
        rw [← eF556]
        have hC557 : HC 0 m501 tg501 ln501 F556 := by rw [eF556]; exact HC_fr (c := 7) (q := 4) (by decide) hC553 ho537.2 (by decide) rfl (Or.inr ⟨b507.1, b507.2⟩) ⟨fun w => absurd w (by decide), fun w => absurd w (by decide)⟩
        have hM558 : Fq gd [(9, 3), (10, 0), (10, 1), (10, 2), (10, 9), (11, 8), (11, 12), (11, 13), (11, 14), (11, 15), (11, 16), (11, 17), (11, 18)] m tg F F556 := by rw [eF556]; exact Fq_x hM554 (Or.inl rfl)
        have c559 : NP m501 tg501 F556 := by rw [eF556]; exact NP_un hC553 c555 ho537.1 ho537.2 (by rw [show F552 (gd) (103 : Int) = F (gd) (103 : Int) from ((show F552 (gd) (103 : Int) = F549 (gd) (103 : Int) from by rw [eF552]; exact uF_a (by omega)).trans ((show F549 (gd) (103 : Int) = F502 (gd) (103 : Int) from by rw [eF549]; exact uF_j (by decide)).trans ((show F502 (gd) (103 : Int) = F454 (gd) (103 : Int) from hM506 _ _ ho482.1 (by omega) (by rw [ho482.2]; rfl)).trans ((show F454 (gd) (103 : Int) = F395 (gd) (103 : Int) from hM457 _ _ ho428.1 (own_z ho428.1) (by rw [ho428.2]; rfl)).trans (show F395 (gd) (103 : Int) = F (gd) (103 : Int) from hM399 _ _ o_gd (own_z o_gd) (by rw [t_gd]; rfl))))))]; omega) (by decide) (Or.inl (by decide))
        refine jx_go (tg := 122) rfl rfl ?_
        have q560 : F556 (sc) (8 : Int) = F502 (sc) (8 : Int) := ((show F556 (sc) (8 : Int) = F552 (sc) (8 : Int) from by rw [eF556]; exact uF_j (by decide)).trans ((show F552 (sc) (8 : Int) = F549 (sc) (8 : Int) from by rw [eF552]; exact uF_j (by decide)).trans (show F549 (sc) (8 : Int) = F502 (sc) (8 : Int) from by rw [eF549]; exact uF_j (by decide))))
        have q561 : F556 (sc) (15 : Int) = F502 (sc) (15 : Int) := ((show F556 (sc) (15 : Int) = F552 (sc) (15 : Int) from by rw [eF556]; exact uF_j (by decide)).trans ((show F552 (sc) (15 : Int) = F549 (sc) (15 : Int) from by rw [eF552]; exact uF_j (by decide)).trans (show F549 (sc) (15 : Int) = F502 (sc) (15 : Int) from by rw [eF549]; exact uF_j (by decide))))
        have q562 : tz (F556 (sc) (15 : Int)) = tz (F502 (sc) (15 : Int)) := by rw [q561]
        have q563 := tz_b (F502 (sc) (15 : Int))
        have q564 : F556 (sc) (14 : Int) = F502 (sc) (14 : Int) := ((show F556 (sc) (14 : Int) = F552 (sc) (14 : Int) from by rw [eF556]; exact uF_j (by decide)).trans ((show F552 (sc) (14 : Int) = F549 (sc) (14 : Int) from by rw [eF552]; exact uF_j (by decide)).trans (show F549 (sc) (14 : Int) = F502 (sc) (14 : Int) from by rw [eF549]; exact uF_j (by decide))))
        have q565 : lz (F556 (sc) (14 : Int)) = lz (F502 (sc) (14 : Int)) := by rw [q564]
        have q566 := lz_b (F502 (sc) (14 : Int))
        have q567 : F556 (pg) (9 : Int) = F502 (pg) (9 : Int) := ((show F556 (pg) (9 : Int) = F552 (pg) (9 : Int) from by rw [eF556]; exact uF_j (by decide)).trans ((show F552 (pg) (9 : Int) = F549 (pg) (9 : Int) from by rw [eF552]; exact uF_j (by decide)).trans (show F549 (pg) (9 : Int) = F502 (pg) (9 : Int) from by rw [eF549]; exact uF_j (by decide))))
        have q568 : F556 (gd) (0 : Int) = F (gd) (0 : Int) := ((show F556 (gd) (0 : Int) = F552 (gd) (0 : Int) from by rw [eF556]; exact uF_j (by decide)).trans ((show F552 (gd) (0 : Int) = F549 (gd) (0 : Int) from by rw [eF552]; exact uF_j (by decide)).trans ((show F549 (gd) (0 : Int) = F502 (gd) (0 : Int) from by rw [eF549]; exact uF_j (by decide)).trans ((show F502 (gd) (0 : Int) = F454 (gd) (0 : Int) from hM506 _ _ ho482.1 (by omega) (by rw [ho482.2]; rfl)).trans ((show F454 (gd) (0 : Int) = F395 (gd) (0 : Int) from hM457 _ _ ho428.1 (own_z ho428.1) (by rw [ho428.2]; rfl)).trans (show F395 (gd) (0 : Int) = F (gd) (0 : Int) from hM399 _ _ o_gd (own_z o_gd) (by rw [t_gd]; rfl)))))))
        exact k_LParser_readGuard_at_122 (X := X) (d := d) (R := R) (m := m) (tg := tg) (ln := ln) (F := F) (me := me) (gd := gd) (hd := hd) (hC := hC) (sc := sc) (pg := pg) (o_sc := o_sc) (t_sc := t_sc) (e_sc := e_sc) (o_pg := o_pg) (t_pg := t_pg) (e_pg := e_pg) (o_me := o_me) (t_me := t_me) (o_gd := o_gd) (t_gd := t_gd) (p_0 := p_0) (p_1 := p_1) (p_2 := p_2) (p_3 := p_3) (p_4 := p_4) (p_5 := p_5) (p_6 := p_6) (p_7 := p_7) (p_8 := p_8) (p_9 := p_9) (p_10 := p_10) (c_NP := c_NP) L436 m501 tg501 ln501 F556 g437 g438 hX541 hC557 hM558 (by omega) (by omega) (by omega) (by omega) (by omega) (by omega) (by omega) (by omega) c559 c545 (WK_i (K := 21) (by rw [show F556 (gd) (103 : Int) = F (gd) (103 : Int) from ((show F556 (gd) (103 : Int) = F552 (gd) (103 : Int) from by rw [eF556]; exact uF_j (by decide)).trans ((show F552 (gd) (103 : Int) = F549 (gd) (103 : Int) from by rw [eF552]; exact uF_a (by omega)).trans ((show F549 (gd) (103 : Int) = F502 (gd) (103 : Int) from by rw [eF549]; exact uF_j (by decide)).trans ((show F502 (gd) (103 : Int) = F454 (gd) (103 : Int) from hM506 _ _ ho482.1 (by omega) (by rw [ho482.2]; rfl)).trans ((show F454 (gd) (103 : Int) = F395 (gd) (103 : Int) from hM457 _ _ ho428.1 (own_z ho428.1) (by rw [ho428.2]; rfl)).trans (show F395 (gd) (103 : Int) = F (gd) (103 : Int) from hM399 _ _ o_gd (own_z o_gd) (by rw [t_gd]; rfl)))))))]; omega) (by rw [show F556 (gd) (101 : Int) = F (gd) (101 : Int) from ((show F556 (gd) (101 : Int) = F552 (gd) (101 : Int) from by rw [eF556]; exact uF_j (by decide)).trans ((show F552 (gd) (101 : Int) = F549 (gd) (101 : Int) from by rw [eF552]; exact uF_j (by decide)).trans ((show F549 (gd) (101 : Int) = F502 (gd) (101 : Int) from by rw [eF549]; exact uF_j (by decide)).trans ((show F502 (gd) (101 : Int) = F454 (gd) (101 : Int) from hM506 _ _ ho482.1 (by omega) (by rw [ho482.2]; rfl)).trans ((show F454 (gd) (101 : Int) = F395 (gd) (101 : Int) from hM457 _ _ ho428.1 (own_z ho428.1) (by rw [ho428.2]; rfl)).trans (show F395 (gd) (101 : Int) = F (gd) (101 : Int) from hM399 _ _ o_gd (own_z o_gd) (by rw [t_gd]; rfl)))))))]; omega) (by rw [show F556 (gd) (8 : Int) = F (gd) (8 : Int) from ((show F556 (gd) (8 : Int) = F552 (gd) (8 : Int) from by rw [eF556]; exact uF_j (by decide)).trans ((show F552 (gd) (8 : Int) = F549 (gd) (8 : Int) from by rw [eF552]; exact uF_j (by decide)).trans ((show F549 (gd) (8 : Int) = F502 (gd) (8 : Int) from by rw [eF549]; exact uF_j (by decide)).trans ((show F502 (gd) (8 : Int) = F454 (gd) (8 : Int) from hM506 _ _ ho482.1 (by omega) (by rw [ho482.2]; rfl)).trans ((show F454 (gd) (8 : Int) = F395 (gd) (8 : Int) from hM457 _ _ ho428.1 (own_z ho428.1) (by rw [ho428.2]; rfl)).trans (show F395 (gd) (8 : Int) = F (gd) (8 : Int) from hM399 _ _ o_gd (own_z o_gd) (by rw [t_gd]; rfl)))))))]; omega) (Or.inr (by rw [show F556 (gd) (4 : Int) = r503 from (show F556 (gd) (4 : Int) = r503 from by rw [eF556]; exact uF_e)]; exact ⟨((show F556 (r503) (103 : Int) = F552 (r503) (103 : Int) from by rw [eF556]; exact uF_j (by decide)).trans (show F552 (r503) (103 : Int) = 1 from by rw [eF552]; exact uF_e)), (by rw [show F556 (r503) (100 : Int) = 20 from ((show F556 (r503) (100 : Int) = F552 (r503) (100 : Int) from by rw [eF556]; exact uF_j (by decide)).trans ((show F552 (r503) (100 : Int) = F549 (r503) (100 : Int) from by rw [eF552]; exact uF_j (by decide)).trans (show F549 (r503) (100 : Int) = 20 from by rw [eF549]; exact uF_e)))]; omega), (by rw [show F556 (r503) (100 : Int) = 20 from ((show F556 (r503) (100 : Int) = F552 (r503) (100 : Int) from by rw [eF556]; exact uF_j (by decide)).trans ((show F552 (r503) (100 : Int) = F549 (r503) (100 : Int) from by rw [eF552]; exact uF_j (by decide)).trans (show F549 (r503) (100 : Int) = 20 from by rw [eF549]; exact uF_e)))]; omega)⟩)) (Or.inl (by rw [show F556 (gd) (5 : Int) = F (gd) (5 : Int) from ((show F556 (gd) (5 : Int) = F552 (gd) (5 : Int) from by rw [eF556]; exact uF_j (by decide)).trans ((show F552 (gd) (5 : Int) = F549 (gd) (5 : Int) from by rw [eF552]; exact uF_j (by decide)).trans ((show F549 (gd) (5 : Int) = F502 (gd) (5 : Int) from by rw [eF549]; exact uF_j (by decide)).trans ((show F502 (gd) (5 : Int) = F454 (gd) (5 : Int) from hM506 _ _ ho482.1 (by omega) (by rw [ho482.2]; rfl)).trans ((show F454 (gd) (5 : Int) = F395 (gd) (5 : Int) from hM457 _ _ ho428.1 (own_z ho428.1) (by rw [ho428.2]; rfl)).trans (show F395 (gd) (5 : Int) = F (gd) (5 : Int) from hM399 _ _ o_gd (own_z o_gd) (by rw [t_gd]; rfl)))))))]; omega)) (Or.inl (by rw [show F556 (gd) (6 : Int) = F (gd) (6 : Int) from ((show F556 (gd) (6 : Int) = F552 (gd) (6 : Int) from by rw [eF556]; exact uF_j (by decide)).trans ((show F552 (gd) (6 : Int) = F549 (gd) (6 : Int) from by rw [eF552]; exact uF_j (by decide)).trans ((show F549 (gd) (6 : Int) = F502 (gd) (6 : Int) from by rw [eF549]; exact uF_j (by decide)).trans ((show F502 (gd) (6 : Int) = F454 (gd) (6 : Int) from hM506 _ _ ho482.1 (by omega) (by rw [ho482.2]; rfl)).trans ((show F454 (gd) (6 : Int) = F395 (gd) (6 : Int) from hM457 _ _ ho428.1 (own_z ho428.1) (by rw [ho428.2]; rfl)).trans (show F395 (gd) (6 : Int) = F (gd) (6 : Int) from hM399 _ _ o_gd (own_z o_gd) (by rw [t_gd]; rfl)))))))]; omega)) (Or.inl (by rw [show F556 (gd) (7 : Int) = F (gd) (7 : Int) from ((show F556 (gd) (7 : Int) = F552 (gd) (7 : Int) from by rw [eF556]; exact uF_j (by decide)).trans ((show F552 (gd) (7 : Int) = F549 (gd) (7 : Int) from by rw [eF552]; exact uF_j (by decide)).trans ((show F549 (gd) (7 : Int) = F502 (gd) (7 : Int) from by rw [eF549]; exact uF_j (by decide)).trans ((show F502 (gd) (7 : Int) = F454 (gd) (7 : Int) from hM506 _ _ ho482.1 (by omega) (by rw [ho482.2]; rfl)).trans ((show F454 (gd) (7 : Int) = F395 (gd) (7 : Int) from hM457 _ _ ho428.1 (own_z ho428.1) (by rw [ho428.2]; rfl)).trans (show F395 (gd) (7 : Int) = F (gd) (7 : Int) from hM399 _ _ o_gd (own_z o_gd) (by rw [t_gd]; rfl)))))))]; omega)) (Or.inl (by rw [show F556 (gd) (0 : Int) = F (gd) (0 : Int) from q568]; omega)))
      · have _q := h443
        refine jx_ld (pc_q := 76) (l_q := L436) (st_q := [rv (me)]) rfl (jl_rvn g437) ?_
        refine cx_gr (pc_q := 79) (c := 8) (q := 1) (v := sc) rfl rfl (by decide) (by decide) rfl rfl ho427.1 ho427.2 ((show F395 (me) (1 : Int) = F (me) (1 : Int) from hM399 _ _ o_me (own_z o_me) (by rw [t_me]; rfl)).trans e_sc) ?_
        have q569 := tz_b (F395 (sc) (15 : Int))
        refine cx_vi (c := 10) (a := sc) (st := []) (as := []) rfl rfl rfl ho429.1 ho429.2 (by decide) rfl ⟨rfl, rfl, (Nat.le_of_ble_eq_true rfl)⟩ rfl (k_LScanner_isOp2 (dd := d) (R := R) (m := m394) (tg := tg394) (ln := ln394) (F := F395) (me := sc) (hd := by omega) (hC := hC398) (o_me := ho429.1) (t_me := ho429.2)) (fun o V_q hq => ?_)
        obtain ⟨r570, rfl, rfl, b571, p572, -⟩ := hq
        refine Or.inr (Or.inl ⟨_, rfl, ?_⟩)
        refine jx_if_ne (pc_q := 85) (tg := 89) rfl rfl rfl (by omega) (by omega) (fun h573 => ?_) (fun h573 => ?_)
        · have _q := h573
          refine jx_ld (pc_q := 90) (l_q := L436) (st_q := [rv (me)]) rfl (jl_rvn g437) ?_
          refine jx_ld (pc_q := 91) (l_q := L436) (st_q := [rv (r396), rv (me)]) rfl (jl_rvn g440) ?_
          refine jx_ld (pc_q := 92) (l_q := L436) (st_q := [rv (r396), rv (r396), rv (me)]) rfl (jl_rvn g440) ?_
          refine cx_gr (pc_q := 95) (c := 7) (q := 3) (v := F395 (r396) (3 : Int)) rfl rfl (by decide) (by decide) rfl rfl b400.1 b400.2 rfl ?_
          have y574 : F395 (r396) (3 : Int) = 0 ∨ (own m394 (F395 (r396) (3 : Int)) ∧ tg394 (F395 (r396) (3 : Int)) = 7) := by have z := HC_r (c := 7) (q := 3) hC398 b400.1 b400.2 (by decide) rfl; rw [show F395 (r396) ((3 : Nat) : Int) = F395 (r396) (3 : Int) from rfl] at z; exact z
          have hn575 : F395 (r396) (3 : Int) ≠ 0 := by omega
          have ho576 : own m394 (F395 (r396) (3 : Int)) ∧ tg394 (F395 (r396) (3 : Int)) = 7 := y574.resolve_left hn575
          refine cx_vi (c := 6) (a := F395 (r396) (3 : Int)) (st := [rv (r396), rv (me)]) (as := []) rfl rfl rfl ho576.1 ho576.2 (by decide) rfl ⟨rfl, rfl, (by rw [jS_r, jS_r, jS_0]; exact Nat.le_of_ble_eq_true rfl)⟩ rfl (k_LName_isValue (dd := d) (R := R) (m := m394) (tg := tg394) (ln := ln394) (F := F395) (me := F395 (r396) (3 : Int)) (hd := by omega) (hC := hC398) (o_me := ho576.1) (t_me := ho576.2)) (fun o V_q hq => ?_)
          obtain ⟨r577, rfl, rfl, b578, -⟩ := hq
          refine Or.inr (Or.inl ⟨_, rfl, ?_⟩)
          refine jx_ld (pc_q := 99) (l_q := L436) (st_q := [.int (i32 (F (sc) (16 : Int))), .int (i32 (r577)), rv (r396), rv (me)]) rfl (jl_iloadn g439) ?_
          have q579 := tz_b (F395 (sc) (15 : Int))
          have q580 : F395 (sc) (7 : Int) = F (sc) (7 : Int) := (show F395 (sc) (7 : Int) = F (sc) (7 : Int) from hM399 _ _ o_sc (own_z o_sc) (by rw [t_sc]; rfl))
          have q581 := lz_b (F395 (sc) (14 : Int))
          refine cx_vi (c := 8) (a := me) (st := []) (as := [rv (r396), .int (i32 (r577)), .int (i32 (F (sc) (16 : Int)))]) rfl rfl rfl ho427.1 ho427.2 (by decide) rfl ⟨rfl, rfl, (Nat.le_of_ble_eq_true rfl)⟩ rfl (k_LParser_judge (dd := d) (R := R) (m := m394) (tg := tg394) (ln := ln394) (F := F395) (me := me) (pt := r396) (wa := r577) (pl := F (sc) (16 : Int)) (hd := by omega) (hC := hC398) (o_me := ho427.1) (t_me := ho427.2) (o_pt := b400.1) (t_pt := b400.2) (h_wa := by omega) (h_pl := by omega) (sc := sc) (pg := pg) (o_sc := ho429.1) (t_sc := ho429.2) (e_sc := ((show F395 (me) (1 : Int) = F (me) (1 : Int) from hM399 _ _ o_me (own_z o_me) (by rw [t_me]; rfl)).trans e_sc)) (o_pg := ho430.1) (t_pg := ho430.2) (e_pg := ((show F395 (me) (0 : Int) = F (me) (0 : Int) from hM399 _ _ o_me (own_z o_me) (by rw [t_me]; rfl)).trans e_pg)) (p_0 := by omega) (p_1 := by omega) (p_2 := by omega) (p_3 := by omega) (c_NP := c413)) (fun o V_q hq => ?_)
          obtain ⟨m582, tg582, ln582, F583, rfl, rfl, hx584, hC585, hM586, p587, p588, p589, p590, p591, p592, p593, c594, c595, -⟩ | ⟨m596, tg596, ln596, F596, x596, rfl, rfl, hx596, hC596, hM596, ho596, ht596, p597, p598, p599, p600, c601, c602, -⟩ := hq
          rotate_left
          ·
            have c603 : NM m m596 tg596 := NM_t c435 hx596 c602
            have lm604 := hx596.1
            refine Or.inr (Or.inr (Or.inr ⟨_, _, rfl, cx_exc (c := 15) ho596 ht596 (by decide), rfl, ?_⟩))
            have q605 : F395 (sc) (7 : Int) = F (sc) (7 : Int) := q580
            exact Or.inr ⟨m596, tg596, ln596, F596, x596, rfl, rfl, Ex_t hX431 hx596, hC596, Fq_t (ln := ln) (ln1 := ln394) hM424 hX431 hM596 (by decide) (Or.inr (Or.inl rfl)), (And.intro ho596 ht596).1, (And.intro ho596 ht596).2, by omega, by omega, by omega, by omega, c601, c603, trivial⟩
          have hM606 : Fq gd [(9, 3), (10, 0), (10, 1), (10, 2), (10, 9), (11, 8), (11, 12), (11, 13), (11, 14), (11, 15), (11, 16), (11, 17), (11, 18)] m tg F F583 := Fq_t (ln := ln) (ln1 := ln394) hM424 hX431 hM586 (by decide) (Or.inr (Or.inl rfl))
          have lm607 := hx584.1
          have lt608 : gd < 64 + (m394 : Int) := ho428.1.2.1
          have lt609 : r396 < 64 + (m394 : Int) := b400.1.2.1
          have ho610 : own m582 (me) ∧ tg582 (me) = 9 := Ex_o hx584 ⟨ho427.1, ho427.2⟩
          have ho611 : own m582 (gd) ∧ tg582 (gd) = 8 := Ex_o hx584 ⟨ho428.1, ho428.2⟩
          have ho612 : own m582 (r396) ∧ tg582 (r396) = 8 := Ex_o hx584 ⟨b400.1, b400.2⟩
          have ho613 : own m582 (sc) ∧ tg582 (sc) = 11 := Ex_o hx584 ⟨ho429.1, ho429.2⟩
          have ho614 : own m582 (pg) ∧ tg582 (pg) = 10 := Ex_o hx584 ⟨ho430.1, ho430.2⟩
          have hX615 := Ex_t hX431 hx584
          have w616 : WK F583 r396 (17 - 2 * F me (3 : Int)) := WK_q p409 hC398 b400.1 b400.2 hM586 rfl
          have c617 : NM m m582 tg582 := NM_t c435 hx584 c595
          refine Or.inl ⟨rfl, ?_⟩
          refine jx_ld (pc_q := 103) (l_q := L436) (st_q := [rv (gd)]) rfl (jl_rvn g438) ?_
          refine jx_ld (pc_q := 104) (l_q := L436) (st_q := [rv (me), rv (gd)]) rfl (jl_rvn g437) ?_
          refine jx_ld (pc_q := 105) (l_q := L436) (st_q := [rv (r396), rv (me), rv (gd)]) rfl (jl_rvn g440) ?_
          have b618 : (0 : Int) ≤ F395 (me) (3 : Int) ∧ F395 (me) (3 : Int) ≤ 8 := by have z := HC_i (c := 8) (q := 3) hC585 ho610.1 ho610.2 (by decide) rfl; rw [show F583 (me) ((3 : Nat) : Int) = F395 (me) (3 : Int) from (show F583 (me) (3 : Int) = F395 (me) (3 : Int) from hM586 _ _ ho427.1 (own_z ho427.1) (by rw [ho427.2]; rfl))] at z; exact z
          have q619 : F583 (sc) (8 : Int) = F395 (sc) (8 : Int) := (show F583 (sc) (8 : Int) = F395 (sc) (8 : Int) from hM586 _ _ ho429.1 (own_z ho429.1) (by rw [ho429.2]; rfl))
          have q620 : F583 (sc) (15 : Int) = F395 (sc) (15 : Int) := (show F583 (sc) (15 : Int) = F395 (sc) (15 : Int) from hM586 _ _ ho429.1 (own_z ho429.1) (by rw [ho429.2]; rfl))
          have q621 : tz (F583 (sc) (15 : Int)) = tz (F395 (sc) (15 : Int)) := by rw [q620]
          have q622 := tz_b (F395 (sc) (15 : Int))
          have q623 : F583 (sc) (7 : Int) = F (sc) (7 : Int) := ((show F583 (sc) (7 : Int) = F395 (sc) (7 : Int) from hM586 _ _ ho429.1 (own_z ho429.1) (by rw [ho429.2]; rfl)).trans q580)
          have q624 : F583 (sc) (14 : Int) = F395 (sc) (14 : Int) := (show F583 (sc) (14 : Int) = F395 (sc) (14 : Int) from hM586 _ _ ho429.1 (own_z ho429.1) (by rw [ho429.2]; rfl))
          have q625 : lz (F583 (sc) (14 : Int)) = lz (F395 (sc) (14 : Int)) := by rw [q624]
          have q626 := lz_b (F395 (sc) (14 : Int))
          have q627 : F583 (me) (3 : Int) = F395 (me) (3 : Int) := (show F583 (me) (3 : Int) = F395 (me) (3 : Int) from hM586 _ _ ho427.1 (own_z ho427.1) (by rw [ho427.2]; rfl))
          have q628 : F583 (r396) (0 : Int) = F395 (r396) (0 : Int) := (show F583 (r396) (0 : Int) = F395 (r396) (0 : Int) from hM586 _ _ b400.1 (own_z b400.1) (by rw [b400.2]; rfl))
          have q629 : F583 (pg) (9 : Int) = F395 (pg) (9 : Int) := (show F583 (pg) (9 : Int) = F395 (pg) (9 : Int) from hM586 _ _ ho430.1 (own_z ho430.1) (by rw [ho430.2]; rfl))
          refine cx_vi (c := 8) (a := me) (st := [rv (gd)]) (as := [rv (r396)]) rfl rfl rfl ho610.1 ho610.2 (by decide) rfl ⟨rfl, rfl, (by rw [jS_r, jS_0]; exact Nat.le_of_ble_eq_true rfl)⟩ rfl (k_LParser_operated (dd := d) (R := R) (m := m582) (tg := tg582) (ln := ln582) (F := F583) (kk := 9) (hE := fun _ => PEx_all X _) (me := me) (lf := r396) (hd := by omega) (hC := hC585) (o_me := ho610.1) (t_me := ho610.2) (o_lf := ho612.1) (t_lf := ho612.2) (sc := sc) (pg := pg) (o_sc := ho613.1) (t_sc := ho613.2) (e_sc := (((show F583 (me) (1 : Int) = F395 (me) (1 : Int) from hM586 _ _ ho427.1 (own_z ho427.1) (by rw [ho427.2]; rfl)).trans (show F395 (me) (1 : Int) = F (me) (1 : Int) from hM399 _ _ o_me (own_z o_me) (by rw [t_me]; rfl))).trans e_sc)) (o_pg := ho614.1) (t_pg := ho614.2) (e_pg := (((show F583 (me) (0 : Int) = F395 (me) (0 : Int) from hM586 _ _ ho427.1 (own_z ho427.1) (by rw [ho427.2]; rfl)).trans (show F395 (me) (0 : Int) = F (me) (0 : Int) from hM399 _ _ o_me (own_z o_me) (by rw [t_me]; rfl))).trans e_pg)) (p_0 := by omega) (p_1 := by omega) (p_2 := by omega) (p_3 := by omega) (p_4 := by omega) (wk_lf := (WK_m w616 (by omega))) (c_NP := c594)) (fun o V_q hq => ?_)
          obtain ⟨m630, tg630, ln630, F631, r632, rfl, rfl, hx633, hC634, hM635, b636, p637, p638, p639, p640, p641, p642, p643, p644, p645, p646, p647, c648, c649, -⟩ | ⟨m650, tg650, ln650, F650, x650, rfl, rfl, hx650, hC650, hM650, ho650, ht650, p651, p652, p653, p654, c655, c656, -⟩ := hq
          rotate_left
          ·
            have c657 : NM m m650 tg650 := NM_t c617 hx650 c656
            have lm658 := hx650.1
            refine Or.inr (Or.inr (Or.inr ⟨_, _, rfl, cx_exc (c := 15) ho650 ht650 (by decide), rfl, ?_⟩))
            have q659 : F583 (sc) (8 : Int) = F395 (sc) (8 : Int) := q619
            have q660 : F583 (sc) (7 : Int) = F (sc) (7 : Int) := q623
            exact Or.inr ⟨m650, tg650, ln650, F650, x650, rfl, rfl, Ex_t hX615 hx650, hC650, Fq_t (ln := ln) (ln1 := ln582) hM606 hX615 hM650 (by decide) (Or.inr (Or.inr (by have := hX431.1; omega))), (And.intro ho650 ht650).1, (And.intro ho650 ht650).2, by omega, by omega, by omega, by omega, c655, c657, trivial⟩
          have hM661 : Fq gd [(9, 3), (10, 0), (10, 1), (10, 2), (10, 9), (11, 8), (11, 12), (11, 13), (11, 14), (11, 15), (11, 16), (11, 17), (11, 18)] m tg F F631 := Fq_t (ln := ln) (ln1 := ln582) hM606 hX615 hM635 (by decide) (Or.inr (Or.inr (by have := hX431.1; omega)))
          have lm662 := hx633.1
          have lt663 : gd < 64 + (m582 : Int) := ho611.1.2.1
          have lt664 : r396 < 64 + (m582 : Int) := ho612.1.2.1
          have ho665 : own m630 (me) ∧ tg630 (me) = 9 := Ex_o hx633 ⟨ho610.1, ho610.2⟩
          have ho666 : own m630 (gd) ∧ tg630 (gd) = 8 := Ex_o hx633 ⟨ho611.1, ho611.2⟩
          have ho667 : own m630 (r396) ∧ tg630 (r396) = 8 := Ex_o hx633 ⟨ho612.1, ho612.2⟩
          have ho668 : own m630 (sc) ∧ tg630 (sc) = 11 := Ex_o hx633 ⟨ho613.1, ho613.2⟩
          have ho669 : own m630 (pg) ∧ tg630 (pg) = 10 := Ex_o hx633 ⟨ho614.1, ho614.2⟩
          have hX670 := Ex_t hX615 hx633
          have q671 := p645.1
          have q672 := p645.2.1
          have q673 := p645.2.2.1
          have c674 : NM m m630 tg630 := NM_t c617 hx633 c649
          refine Or.inr (Or.inl ⟨_, rfl, ?_⟩)
          have q675 := p645.1
          have q676 := p645.2.1
          have q677 := p645.2.2.1
          rw [← cV_gh (F := F631) (a := r632) (j := 100) (z := 20) (Or.inr ⟨by decide, by rw [b636.2]; decide⟩)]
          obtain ⟨F678, eF678⟩ : ∃ q, q = uF F631 (r632) (100 : Int) (20) := ⟨_, rfl⟩
          rw [← eF678]
          have hC679 : HC 0 m630 tg630 ln630 F678 := by rw [eF678]; exact HC_gh hC634 (by rw [b636.2]; decide) (by decide)
          have hM680 : Fq gd [(9, 3), (10, 0), (10, 1), (10, 2), (10, 9), (11, 8), (11, 12), (11, 13), (11, 14), (11, 15), (11, 16), (11, 17), (11, 18)] m tg F F678 := by rw [eF678]; exact Fq_x hM661 (Or.inr (by have := hX670.1; omega))
          rw [← cV_gh (F := F678) (a := r632) (j := 103) (z := 1) (Or.inr ⟨by decide, by rw [b636.2]; decide⟩)]
          obtain ⟨F681, eF681⟩ : ∃ q, q = uF F678 (r632) (103 : Int) (1) := ⟨_, rfl⟩
          rw [← eF681]
          have hC682 : HC 0 m630 tg630 ln630 F681 := by rw [eF681]; exact HC_gh hC679 (by rw [b636.2]; decide) (by decide)
          have hM683 : Fq gd [(9, 3), (10, 0), (10, 1), (10, 2), (10, 9), (11, 8), (11, 12), (11, 13), (11, 14), (11, 15), (11, 16), (11, 17), (11, 18)] m tg F F681 := by rw [eF681]; exact Fq_x hM680 (Or.inr (by have := hX670.1; omega))
          have c684 : NP m630 tg630 F681 := by rw [eF681, eF678]; exact NP_seal hC634 c648 b636.1 b636.2 p645 (by omega)
          refine cx_po (pc_q := 111) (c := 7) (q := 4) (qi := (4 : Int)) (z := r632) rfl rfl (by decide) (by decide) rfl rfl rfl (by decide) rfl ho666.1 ho666.2 rfl ?_
          obtain ⟨F685, eF685⟩ : ∃ q, q = uF F681 (gd) (4 : Int) (r632) := ⟨_, rfl⟩
          rw [← eF685]
          have hC686 : HC 0 m630 tg630 ln630 F685 := by rw [eF685]; exact HC_fr (c := 7) (q := 4) (by decide) hC682 ho666.2 (by decide) rfl (Or.inr ⟨b636.1, b636.2⟩) ⟨fun w => absurd w (by decide), fun w => absurd w (by decide)⟩
          have hM687 : Fq gd [(9, 3), (10, 0), (10, 1), (10, 2), (10, 9), (11, 8), (11, 12), (11, 13), (11, 14), (11, 15), (11, 16), (11, 17), (11, 18)] m tg F F685 := by rw [eF685]; exact Fq_x hM683 (Or.inl rfl)
          have c688 : NP m630 tg630 F685 := by rw [eF685]; exact NP_un hC682 c684 ho666.1 ho666.2 (by rw [show F681 (gd) (103 : Int) = F (gd) (103 : Int) from ((show F681 (gd) (103 : Int) = F678 (gd) (103 : Int) from by rw [eF681]; exact uF_a (by omega)).trans ((show F678 (gd) (103 : Int) = F631 (gd) (103 : Int) from by rw [eF678]; exact uF_j (by decide)).trans ((show F631 (gd) (103 : Int) = F583 (gd) (103 : Int) from hM635 _ _ ho611.1 (by omega) (by rw [ho611.2]; rfl)).trans ((show F583 (gd) (103 : Int) = F395 (gd) (103 : Int) from hM586 _ _ ho428.1 (own_z ho428.1) (by rw [ho428.2]; rfl)).trans (show F395 (gd) (103 : Int) = F (gd) (103 : Int) from hM399 _ _ o_gd (own_z o_gd) (by rw [t_gd]; rfl))))))]; omega) (by decide) (Or.inl (by decide))
          refine jx_go (tg := 122) rfl rfl ?_
          have q689 : F685 (sc) (8 : Int) = F631 (sc) (8 : Int) := ((show F685 (sc) (8 : Int) = F681 (sc) (8 : Int) from by rw [eF685]; exact uF_j (by decide)).trans ((show F681 (sc) (8 : Int) = F678 (sc) (8 : Int) from by rw [eF681]; exact uF_j (by decide)).trans (show F678 (sc) (8 : Int) = F631 (sc) (8 : Int) from by rw [eF678]; exact uF_j (by decide))))
          have q690 : F685 (sc) (15 : Int) = F631 (sc) (15 : Int) := ((show F685 (sc) (15 : Int) = F681 (sc) (15 : Int) from by rw [eF685]; exact uF_j (by decide)).trans ((show F681 (sc) (15 : Int) = F678 (sc) (15 : Int) from by rw [eF681]; exact uF_j (by decide)).trans (show F678 (sc) (15 : Int) = F631 (sc) (15 : Int) from by rw [eF678]; exact uF_j (by decide))))
          have q691 : tz (F685 (sc) (15 : Int)) = tz (F631 (sc) (15 : Int)) := by rw [q690]
          have q692 := tz_b (F631 (sc) (15 : Int))
          have q693 : F685 (sc) (14 : Int) = F631 (sc) (14 : Int) := ((show F685 (sc) (14 : Int) = F681 (sc) (14 : Int) from by rw [eF685]; exact uF_j (by decide)).trans ((show F681 (sc) (14 : Int) = F678 (sc) (14 : Int) from by rw [eF681]; exact uF_j (by decide)).trans (show F678 (sc) (14 : Int) = F631 (sc) (14 : Int) from by rw [eF678]; exact uF_j (by decide))))
          have q694 : lz (F685 (sc) (14 : Int)) = lz (F631 (sc) (14 : Int)) := by rw [q693]
          have q695 := lz_b (F631 (sc) (14 : Int))
          have q696 : F685 (pg) (9 : Int) = F631 (pg) (9 : Int) := ((show F685 (pg) (9 : Int) = F681 (pg) (9 : Int) from by rw [eF685]; exact uF_j (by decide)).trans ((show F681 (pg) (9 : Int) = F678 (pg) (9 : Int) from by rw [eF681]; exact uF_j (by decide)).trans (show F678 (pg) (9 : Int) = F631 (pg) (9 : Int) from by rw [eF678]; exact uF_j (by decide))))
          have q697 : F685 (gd) (0 : Int) = F (gd) (0 : Int) := ((show F685 (gd) (0 : Int) = F681 (gd) (0 : Int) from by rw [eF685]; exact uF_j (by decide)).trans ((show F681 (gd) (0 : Int) = F678 (gd) (0 : Int) from by rw [eF681]; exact uF_j (by decide)).trans ((show F678 (gd) (0 : Int) = F631 (gd) (0 : Int) from by rw [eF678]; exact uF_j (by decide)).trans ((show F631 (gd) (0 : Int) = F583 (gd) (0 : Int) from hM635 _ _ ho611.1 (by omega) (by rw [ho611.2]; rfl)).trans ((show F583 (gd) (0 : Int) = F395 (gd) (0 : Int) from hM586 _ _ ho428.1 (own_z ho428.1) (by rw [ho428.2]; rfl)).trans (show F395 (gd) (0 : Int) = F (gd) (0 : Int) from hM399 _ _ o_gd (own_z o_gd) (by rw [t_gd]; rfl)))))))
          exact k_LParser_readGuard_at_122 (X := X) (d := d) (R := R) (m := m) (tg := tg) (ln := ln) (F := F) (me := me) (gd := gd) (hd := hd) (hC := hC) (sc := sc) (pg := pg) (o_sc := o_sc) (t_sc := t_sc) (e_sc := e_sc) (o_pg := o_pg) (t_pg := t_pg) (e_pg := e_pg) (o_me := o_me) (t_me := t_me) (o_gd := o_gd) (t_gd := t_gd) (p_0 := p_0) (p_1 := p_1) (p_2 := p_2) (p_3 := p_3) (p_4 := p_4) (p_5 := p_5) (p_6 := p_6) (p_7 := p_7) (p_8 := p_8) (p_9 := p_9) (p_10 := p_10) (c_NP := c_NP) L436 m630 tg630 ln630 F685 g437 g438 hX670 hC686 hM687 (by omega) (by omega) (by omega) (by omega) (by omega) (by omega) (by omega) (by omega) c688 c674 (WK_i (K := 21) (by rw [show F685 (gd) (103 : Int) = F (gd) (103 : Int) from ((show F685 (gd) (103 : Int) = F681 (gd) (103 : Int) from by rw [eF685]; exact uF_j (by decide)).trans ((show F681 (gd) (103 : Int) = F678 (gd) (103 : Int) from by rw [eF681]; exact uF_a (by omega)).trans ((show F678 (gd) (103 : Int) = F631 (gd) (103 : Int) from by rw [eF678]; exact uF_j (by decide)).trans ((show F631 (gd) (103 : Int) = F583 (gd) (103 : Int) from hM635 _ _ ho611.1 (by omega) (by rw [ho611.2]; rfl)).trans ((show F583 (gd) (103 : Int) = F395 (gd) (103 : Int) from hM586 _ _ ho428.1 (own_z ho428.1) (by rw [ho428.2]; rfl)).trans (show F395 (gd) (103 : Int) = F (gd) (103 : Int) from hM399 _ _ o_gd (own_z o_gd) (by rw [t_gd]; rfl)))))))]; omega) (by rw [show F685 (gd) (101 : Int) = F (gd) (101 : Int) from ((show F685 (gd) (101 : Int) = F681 (gd) (101 : Int) from by rw [eF685]; exact uF_j (by decide)).trans ((show F681 (gd) (101 : Int) = F678 (gd) (101 : Int) from by rw [eF681]; exact uF_j (by decide)).trans ((show F678 (gd) (101 : Int) = F631 (gd) (101 : Int) from by rw [eF678]; exact uF_j (by decide)).trans ((show F631 (gd) (101 : Int) = F583 (gd) (101 : Int) from hM635 _ _ ho611.1 (by omega) (by rw [ho611.2]; rfl)).trans ((show F583 (gd) (101 : Int) = F395 (gd) (101 : Int) from hM586 _ _ ho428.1 (own_z ho428.1) (by rw [ho428.2]; rfl)).trans (show F395 (gd) (101 : Int) = F (gd) (101 : Int) from hM399 _ _ o_gd (own_z o_gd) (by rw [t_gd]; rfl)))))))]; omega) (by rw [show F685 (gd) (8 : Int) = F (gd) (8 : Int) from ((show F685 (gd) (8 : Int) = F681 (gd) (8 : Int) from by rw [eF685]; exact uF_j (by decide)).trans ((show F681 (gd) (8 : Int) = F678 (gd) (8 : Int) from by rw [eF681]; exact uF_j (by decide)).trans ((show F678 (gd) (8 : Int) = F631 (gd) (8 : Int) from by rw [eF678]; exact uF_j (by decide)).trans ((show F631 (gd) (8 : Int) = F583 (gd) (8 : Int) from hM635 _ _ ho611.1 (by omega) (by rw [ho611.2]; rfl)).trans ((show F583 (gd) (8 : Int) = F395 (gd) (8 : Int) from hM586 _ _ ho428.1 (own_z ho428.1) (by rw [ho428.2]; rfl)).trans (show F395 (gd) (8 : Int) = F (gd) (8 : Int) from hM399 _ _ o_gd (own_z o_gd) (by rw [t_gd]; rfl)))))))]; omega) (Or.inr (by rw [show F685 (gd) (4 : Int) = r632 from (show F685 (gd) (4 : Int) = r632 from by rw [eF685]; exact uF_e)]; exact ⟨((show F685 (r632) (103 : Int) = F681 (r632) (103 : Int) from by rw [eF685]; exact uF_j (by decide)).trans (show F681 (r632) (103 : Int) = 1 from by rw [eF681]; exact uF_e)), (by rw [show F685 (r632) (100 : Int) = 20 from ((show F685 (r632) (100 : Int) = F681 (r632) (100 : Int) from by rw [eF685]; exact uF_j (by decide)).trans ((show F681 (r632) (100 : Int) = F678 (r632) (100 : Int) from by rw [eF681]; exact uF_j (by decide)).trans (show F678 (r632) (100 : Int) = 20 from by rw [eF678]; exact uF_e)))]; omega), (by rw [show F685 (r632) (100 : Int) = 20 from ((show F685 (r632) (100 : Int) = F681 (r632) (100 : Int) from by rw [eF685]; exact uF_j (by decide)).trans ((show F681 (r632) (100 : Int) = F678 (r632) (100 : Int) from by rw [eF681]; exact uF_j (by decide)).trans (show F678 (r632) (100 : Int) = 20 from by rw [eF678]; exact uF_e)))]; omega)⟩)) (Or.inl (by rw [show F685 (gd) (5 : Int) = F (gd) (5 : Int) from ((show F685 (gd) (5 : Int) = F681 (gd) (5 : Int) from by rw [eF685]; exact uF_j (by decide)).trans ((show F681 (gd) (5 : Int) = F678 (gd) (5 : Int) from by rw [eF681]; exact uF_j (by decide)).trans ((show F678 (gd) (5 : Int) = F631 (gd) (5 : Int) from by rw [eF678]; exact uF_j (by decide)).trans ((show F631 (gd) (5 : Int) = F583 (gd) (5 : Int) from hM635 _ _ ho611.1 (by omega) (by rw [ho611.2]; rfl)).trans ((show F583 (gd) (5 : Int) = F395 (gd) (5 : Int) from hM586 _ _ ho428.1 (own_z ho428.1) (by rw [ho428.2]; rfl)).trans (show F395 (gd) (5 : Int) = F (gd) (5 : Int) from hM399 _ _ o_gd (own_z o_gd) (by rw [t_gd]; rfl)))))))]; omega)) (Or.inl (by rw [show F685 (gd) (6 : Int) = F (gd) (6 : Int) from ((show F685 (gd) (6 : Int) = F681 (gd) (6 : Int) from by rw [eF685]; exact uF_j (by decide)).trans ((show F681 (gd) (6 : Int) = F678 (gd) (6 : Int) from by rw [eF681]; exact uF_j (by decide)).trans ((show F678 (gd) (6 : Int) = F631 (gd) (6 : Int) from by rw [eF678]; exact uF_j (by decide)).trans ((show F631 (gd) (6 : Int) = F583 (gd) (6 : Int) from hM635 _ _ ho611.1 (by omega) (by rw [ho611.2]; rfl)).trans ((show F583 (gd) (6 : Int) = F395 (gd) (6 : Int) from hM586 _ _ ho428.1 (own_z ho428.1) (by rw [ho428.2]; rfl)).trans (show F395 (gd) (6 : Int) = F (gd) (6 : Int) from hM399 _ _ o_gd (own_z o_gd) (by rw [t_gd]; rfl)))))))]; omega)) (Or.inl (by rw [show F685 (gd) (7 : Int) = F (gd) (7 : Int) from ((show F685 (gd) (7 : Int) = F681 (gd) (7 : Int) from by rw [eF685]; exact uF_j (by decide)).trans ((show F681 (gd) (7 : Int) = F678 (gd) (7 : Int) from by rw [eF681]; exact uF_j (by decide)).trans ((show F678 (gd) (7 : Int) = F631 (gd) (7 : Int) from by rw [eF678]; exact uF_j (by decide)).trans ((show F631 (gd) (7 : Int) = F583 (gd) (7 : Int) from hM635 _ _ ho611.1 (by omega) (by rw [ho611.2]; rfl)).trans ((show F583 (gd) (7 : Int) = F395 (gd) (7 : Int) from hM586 _ _ ho428.1 (own_z ho428.1) (by rw [ho428.2]; rfl)).trans (show F395 (gd) (7 : Int) = F (gd) (7 : Int) from hM399 _ _ o_gd (own_z o_gd) (by rw [t_gd]; rfl)))))))]; omega)) (Or.inl (by rw [show F685 (gd) (0 : Int) = F (gd) (0 : Int) from q697]; omega)))
        · have _q := h573
          refine jx_ld (pc_q := 86) (l_q := L436) (st_q := [rv (me)]) rfl (jl_rvn g437) ?_
          have q698 : F395 (sc) (7 : Int) = F (sc) (7 : Int) := (show F395 (sc) (7 : Int) = F (sc) (7 : Int) from hM399 _ _ o_sc (own_z o_sc) (by rw [t_sc]; rfl))
          refine cx_vi (c := 8) (a := me) (st := []) (as := []) rfl rfl rfl ho427.1 ho427.2 (by decide) rfl ⟨rfl, rfl, (Nat.le_of_ble_eq_true rfl)⟩ rfl (k_LParser_form (dd := d) (R := R) (m := m394) (tg := tg394) (ln := ln394) (F := F395) (me := me) (hd := by omega) (hC := hC398) (o_me := ho427.1) (t_me := ho427.2) (sc := sc) (pg := pg) (o_sc := ho429.1) (t_sc := ho429.2) (e_sc := ((show F395 (me) (1 : Int) = F (me) (1 : Int) from hM399 _ _ o_me (own_z o_me) (by rw [t_me]; rfl)).trans e_sc)) (o_pg := ho430.1) (t_pg := ho430.2) (e_pg := ((show F395 (me) (0 : Int) = F (me) (0 : Int) from hM399 _ _ o_me (own_z o_me) (by rw [t_me]; rfl)).trans e_pg)) (p_0 := by omega) (c_NP := c413)) (fun o V_q hq => ?_)
          obtain ⟨m699, tg699, ln699, F700, rfl, rfl, hx701, hC702, hM703, p704, c705, c706, -⟩ | ⟨m707, tg707, ln707, F707, x707, rfl, rfl, hx707, hC707, hM707, ho707, ht707, p708, p709, p710, p711, c712, c713, -⟩ := hq
          rotate_left
          ·
            have c714 : NM m m707 tg707 := NM_t c435 hx707 c713
            have lm715 := hx707.1
            refine Or.inr (Or.inr (Or.inr ⟨_, _, rfl, cx_exc (c := 15) ho707 ht707 (by decide), rfl, ?_⟩))
            have q716 : F395 (sc) (7 : Int) = F (sc) (7 : Int) := q698
            exact Or.inr ⟨m707, tg707, ln707, F707, x707, rfl, rfl, Ex_t hX431 hx707, hC707, Fq_t (ln := ln) (ln1 := ln394) hM424 hX431 hM707 (by decide) (Or.inr (Or.inl rfl)), (And.intro ho707 ht707).1, (And.intro ho707 ht707).2, by omega, by omega, by omega, by omega, c712, c714, trivial⟩
          exact p704.elim
    · have _q := h442
      have t717 : tz (F395 (sc) (15 : Int)) = 1 := tz_p (by omega)
      refine jx_ld (pc_q := 37) (l_q := L436) (st_q := [rv (me)]) rfl (jl_rvn g437) ?_
      refine jx_ld (pc_q := 38) (l_q := L436) (st_q := [rv (r396), rv (me)]) rfl (jl_rvn g440) ?_
      refine jx_ld (pc_q := 39) (l_q := L436) (st_q := [rv (r396), rv (r396), rv (me)]) rfl (jl_rvn g440) ?_
      refine cx_gr (pc_q := 42) (c := 7) (q := 3) (v := F395 (r396) (3 : Int)) rfl rfl (by decide) (by decide) rfl rfl b400.1 b400.2 rfl ?_
      have y718 : F395 (r396) (3 : Int) = 0 ∨ (own m394 (F395 (r396) (3 : Int)) ∧ tg394 (F395 (r396) (3 : Int)) = 7) := by have z := HC_r (c := 7) (q := 3) hC398 b400.1 b400.2 (by decide) rfl; rw [show F395 (r396) ((3 : Nat) : Int) = F395 (r396) (3 : Int) from rfl] at z; exact z
      have hn719 : F395 (r396) (3 : Int) ≠ 0 := by omega
      have ho720 : own m394 (F395 (r396) (3 : Int)) ∧ tg394 (F395 (r396) (3 : Int)) = 7 := y718.resolve_left hn719
      refine cx_vi (c := 6) (a := F395 (r396) (3 : Int)) (st := [rv (r396), rv (me)]) (as := []) rfl rfl rfl ho720.1 ho720.2 (by decide) rfl ⟨rfl, rfl, (by rw [jS_r, jS_r, jS_0]; exact Nat.le_of_ble_eq_true rfl)⟩ rfl (k_LName_isChannel (dd := d) (R := R) (m := m394) (tg := tg394) (ln := ln394) (F := F395) (me := F395 (r396) (3 : Int)) (hd := by omega) (hC := hC398) (o_me := ho720.1) (t_me := ho720.2)) (fun o V_q hq => ?_)
      obtain ⟨r721, rfl, rfl, b722, -⟩ := hq
      refine Or.inr (Or.inl ⟨_, rfl, ?_⟩)
      refine jx_ld (pc_q := 46) (l_q := L436) (st_q := [.int (i32 (F (sc) (16 : Int))), .int (i32 (r721)), rv (r396), rv (me)]) rfl (jl_iloadn g439) ?_
      have q723 := tz_b (F395 (sc) (15 : Int))
      have q724 : F395 (sc) (7 : Int) = F (sc) (7 : Int) := (show F395 (sc) (7 : Int) = F (sc) (7 : Int) from hM399 _ _ o_sc (own_z o_sc) (by rw [t_sc]; rfl))
      have q725 := lz_b (F395 (sc) (14 : Int))
      refine cx_vi (c := 8) (a := me) (st := []) (as := [rv (r396), .int (i32 (r721)), .int (i32 (F (sc) (16 : Int)))]) rfl rfl rfl ho427.1 ho427.2 (by decide) rfl ⟨rfl, rfl, (Nat.le_of_ble_eq_true rfl)⟩ rfl (k_LParser_judge (dd := d) (R := R) (m := m394) (tg := tg394) (ln := ln394) (F := F395) (me := me) (pt := r396) (wa := r721) (pl := F (sc) (16 : Int)) (hd := by omega) (hC := hC398) (o_me := ho427.1) (t_me := ho427.2) (o_pt := b400.1) (t_pt := b400.2) (h_wa := by omega) (h_pl := by omega) (sc := sc) (pg := pg) (o_sc := ho429.1) (t_sc := ho429.2) (e_sc := ((show F395 (me) (1 : Int) = F (me) (1 : Int) from hM399 _ _ o_me (own_z o_me) (by rw [t_me]; rfl)).trans e_sc)) (o_pg := ho430.1) (t_pg := ho430.2) (e_pg := ((show F395 (me) (0 : Int) = F (me) (0 : Int) from hM399 _ _ o_me (own_z o_me) (by rw [t_me]; rfl)).trans e_pg)) (p_0 := by omega) (p_1 := by omega) (p_2 := by omega) (p_3 := by omega) (c_NP := c413)) (fun o V_q hq => ?_)
      obtain ⟨m726, tg726, ln726, F727, rfl, rfl, hx728, hC729, hM730, p731, p732, p733, p734, p735, p736, p737, c738, c739, -⟩ | ⟨m740, tg740, ln740, F740, x740, rfl, rfl, hx740, hC740, hM740, ho740, ht740, p741, p742, p743, p744, c745, c746, -⟩ := hq
      rotate_left
      ·
        have c747 : NM m m740 tg740 := NM_t c435 hx740 c746
        have lm748 := hx740.1
        refine Or.inr (Or.inr (Or.inr ⟨_, _, rfl, cx_exc (c := 15) ho740 ht740 (by decide), rfl, ?_⟩))
        have q749 : F395 (sc) (7 : Int) = F (sc) (7 : Int) := q724
        exact Or.inr ⟨m740, tg740, ln740, F740, x740, rfl, rfl, Ex_t hX431 hx740, hC740, Fq_t (ln := ln) (ln1 := ln394) hM424 hX431 hM740 (by decide) (Or.inr (Or.inl rfl)), (And.intro ho740 ht740).1, (And.intro ho740 ht740).2, by omega, by omega, by omega, by omega, c745, c747, trivial⟩
      have hM750 : Fq gd [(9, 3), (10, 0), (10, 1), (10, 2), (10, 9), (11, 8), (11, 12), (11, 13), (11, 14), (11, 15), (11, 16), (11, 17), (11, 18)] m tg F F727 := Fq_t (ln := ln) (ln1 := ln394) hM424 hX431 hM730 (by decide) (Or.inr (Or.inl rfl))
      have lm751 := hx728.1
      have lt752 : gd < 64 + (m394 : Int) := ho428.1.2.1
      have lt753 : r396 < 64 + (m394 : Int) := b400.1.2.1
      have ho754 : own m726 (me) ∧ tg726 (me) = 9 := Ex_o hx728 ⟨ho427.1, ho427.2⟩
      have ho755 : own m726 (gd) ∧ tg726 (gd) = 8 := Ex_o hx728 ⟨ho428.1, ho428.2⟩
      have ho756 : own m726 (r396) ∧ tg726 (r396) = 8 := Ex_o hx728 ⟨b400.1, b400.2⟩
      have ho757 : own m726 (sc) ∧ tg726 (sc) = 11 := Ex_o hx728 ⟨ho429.1, ho429.2⟩
      have ho758 : own m726 (pg) ∧ tg726 (pg) = 10 := Ex_o hx728 ⟨ho430.1, ho430.2⟩
      have hX759 := Ex_t hX431 hx728
      have w760 : WK F727 r396 (17 - 2 * F me (3 : Int)) := WK_q p409 hC398 b400.1 b400.2 hM730 rfl
      have c761 : NM m m726 tg726 := NM_t c435 hx728 c739
      refine Or.inl ⟨rfl, ?_⟩
      refine jx_ld (pc_q := 50) (l_q := L436) (st_q := [rv (gd)]) rfl (jl_rvn g438) ?_
      refine jx_ld (pc_q := 51) (l_q := L436) (st_q := [rv (r396), rv (gd)]) rfl (jl_rvn g440) ?_
      have q762 := w760.1
      have q763 := w760.2.1
      have q764 := w760.2.2.1
      rw [← cV_gh (F := F727) (a := r396) (j := 100) (z := 20) (Or.inr ⟨by decide, by rw [ho756.2]; decide⟩)]
      obtain ⟨F765, eF765⟩ : ∃ q, q = uF F727 (r396) (100 : Int) (20) := ⟨_, rfl⟩
      rw [← eF765]
      have hC766 : HC 0 m726 tg726 ln726 F765 := by rw [eF765]; exact HC_gh hC729 (by rw [ho756.2]; decide) (by decide)
      have hM767 : Fq gd [(9, 3), (10, 0), (10, 1), (10, 2), (10, 9), (11, 8), (11, 12), (11, 13), (11, 14), (11, 15), (11, 16), (11, 17), (11, 18)] m tg F F765 := by rw [eF765]; exact Fq_x hM750 (Or.inr (by have := hX431.1; omega))
      rw [← cV_gh (F := F765) (a := r396) (j := 103) (z := 1) (Or.inr ⟨by decide, by rw [ho756.2]; decide⟩)]
      obtain ⟨F768, eF768⟩ : ∃ q, q = uF F765 (r396) (103 : Int) (1) := ⟨_, rfl⟩
      rw [← eF768]
      have hC769 : HC 0 m726 tg726 ln726 F768 := by rw [eF768]; exact HC_gh hC766 (by rw [ho756.2]; decide) (by decide)
      have hM770 : Fq gd [(9, 3), (10, 0), (10, 1), (10, 2), (10, 9), (11, 8), (11, 12), (11, 13), (11, 14), (11, 15), (11, 16), (11, 17), (11, 18)] m tg F F768 := by rw [eF768]; exact Fq_x hM767 (Or.inr (by have := hX431.1; omega))
      have c771 : NP m726 tg726 F768 := by rw [eF768, eF765]; exact NP_seal hC729 c738 ho756.1 ho756.2 w760 (by omega)
      refine cx_po (pc_q := 54) (c := 7) (q := 5) (qi := (5 : Int)) (z := r396) rfl rfl (by decide) (by decide) rfl rfl rfl (by decide) rfl ho755.1 ho755.2 rfl ?_
      obtain ⟨F772, eF772⟩ : ∃ q, q = uF F768 (gd) (5 : Int) (r396) := ⟨_, rfl⟩
      rw [← eF772]
      have hC773 : HC 0 m726 tg726 ln726 F772 := by rw [eF772]; exact HC_fr (c := 7) (q := 5) (by decide) hC769 ho755.2 (by decide) rfl (Or.inr ⟨ho756.1, ho756.2⟩) ⟨fun w => absurd w (by decide), fun w => absurd w (by decide)⟩
      have hM774 : Fq gd [(9, 3), (10, 0), (10, 1), (10, 2), (10, 9), (11, 8), (11, 12), (11, 13), (11, 14), (11, 15), (11, 16), (11, 17), (11, 18)] m tg F F772 := by rw [eF772]; exact Fq_x hM770 (Or.inl rfl)
      have c775 : NP m726 tg726 F772 := by rw [eF772]; exact NP_un hC769 c771 ho755.1 ho755.2 (by rw [show F768 (gd) (103 : Int) = F (gd) (103 : Int) from ((show F768 (gd) (103 : Int) = F765 (gd) (103 : Int) from by rw [eF768]; exact uF_a (by omega)).trans ((show F765 (gd) (103 : Int) = F727 (gd) (103 : Int) from by rw [eF765]; exact uF_j (by decide)).trans ((show F727 (gd) (103 : Int) = F395 (gd) (103 : Int) from hM730 _ _ ho428.1 (own_z ho428.1) (by rw [ho428.2]; rfl)).trans (show F395 (gd) (103 : Int) = F (gd) (103 : Int) from hM399 _ _ o_gd (own_z o_gd) (by rw [t_gd]; rfl)))))]; omega) (by decide) (Or.inl (by decide))
      refine jx_ld (pc_q := 55) (l_q := L436) (st_q := [rv (gd)]) rfl (jl_rvn g438) ?_
      refine jx_ld (pc_q := 56) (l_q := L436) (st_q := [rv (me), rv (gd)]) rfl (jl_rvn g437) ?_
      have b776 : (0 : Int) ≤ F395 (me) (3 : Int) ∧ F395 (me) (3 : Int) ≤ 8 := by have z := HC_i (c := 8) (q := 3) hC773 ho754.1 ho754.2 (by decide) rfl; rw [show F772 (me) ((3 : Nat) : Int) = F395 (me) (3 : Int) from ((show F772 (me) (3 : Int) = F768 (me) (3 : Int) from by rw [eF772]; exact uF_j (by decide)).trans ((show F768 (me) (3 : Int) = F765 (me) (3 : Int) from by rw [eF768]; exact uF_j (by decide)).trans ((show F765 (me) (3 : Int) = F727 (me) (3 : Int) from by rw [eF765]; exact uF_j (by decide)).trans (show F727 (me) (3 : Int) = F395 (me) (3 : Int) from hM730 _ _ ho427.1 (own_z ho427.1) (by rw [ho427.2]; rfl)))))] at z; exact z
      have q777 : F772 (sc) (8 : Int) = F395 (sc) (8 : Int) := ((show F772 (sc) (8 : Int) = F768 (sc) (8 : Int) from by rw [eF772]; exact uF_j (by decide)).trans ((show F768 (sc) (8 : Int) = F765 (sc) (8 : Int) from by rw [eF768]; exact uF_j (by decide)).trans ((show F765 (sc) (8 : Int) = F727 (sc) (8 : Int) from by rw [eF765]; exact uF_j (by decide)).trans (show F727 (sc) (8 : Int) = F395 (sc) (8 : Int) from hM730 _ _ ho429.1 (own_z ho429.1) (by rw [ho429.2]; rfl)))))
      have q778 : F772 (sc) (15 : Int) = F395 (sc) (15 : Int) := ((show F772 (sc) (15 : Int) = F768 (sc) (15 : Int) from by rw [eF772]; exact uF_j (by decide)).trans ((show F768 (sc) (15 : Int) = F765 (sc) (15 : Int) from by rw [eF768]; exact uF_j (by decide)).trans ((show F765 (sc) (15 : Int) = F727 (sc) (15 : Int) from by rw [eF765]; exact uF_j (by decide)).trans (show F727 (sc) (15 : Int) = F395 (sc) (15 : Int) from hM730 _ _ ho429.1 (own_z ho429.1) (by rw [ho429.2]; rfl)))))
      have q779 : tz (F772 (sc) (15 : Int)) = tz (F395 (sc) (15 : Int)) := by rw [q778]
      have q780 := tz_b (F395 (sc) (15 : Int))
      have q781 : F772 (sc) (7 : Int) = F (sc) (7 : Int) := ((show F772 (sc) (7 : Int) = F768 (sc) (7 : Int) from by rw [eF772]; exact uF_j (by decide)).trans ((show F768 (sc) (7 : Int) = F765 (sc) (7 : Int) from by rw [eF768]; exact uF_j (by decide)).trans ((show F765 (sc) (7 : Int) = F727 (sc) (7 : Int) from by rw [eF765]; exact uF_j (by decide)).trans ((show F727 (sc) (7 : Int) = F395 (sc) (7 : Int) from hM730 _ _ ho429.1 (own_z ho429.1) (by rw [ho429.2]; rfl)).trans q724))))
      have q782 : F772 (sc) (14 : Int) = F395 (sc) (14 : Int) := ((show F772 (sc) (14 : Int) = F768 (sc) (14 : Int) from by rw [eF772]; exact uF_j (by decide)).trans ((show F768 (sc) (14 : Int) = F765 (sc) (14 : Int) from by rw [eF768]; exact uF_j (by decide)).trans ((show F765 (sc) (14 : Int) = F727 (sc) (14 : Int) from by rw [eF765]; exact uF_j (by decide)).trans (show F727 (sc) (14 : Int) = F395 (sc) (14 : Int) from hM730 _ _ ho429.1 (own_z ho429.1) (by rw [ho429.2]; rfl)))))
      have q783 : lz (F772 (sc) (14 : Int)) = lz (F395 (sc) (14 : Int)) := by rw [q782]
      have q784 := lz_b (F395 (sc) (14 : Int))
      have q785 : F772 (pg) (9 : Int) = F395 (pg) (9 : Int) := ((show F772 (pg) (9 : Int) = F768 (pg) (9 : Int) from by rw [eF772]; exact uF_j (by decide)).trans ((show F768 (pg) (9 : Int) = F765 (pg) (9 : Int) from by rw [eF768]; exact uF_j (by decide)).trans ((show F765 (pg) (9 : Int) = F727 (pg) (9 : Int) from by rw [eF765]; exact uF_j (by decide)).trans (show F727 (pg) (9 : Int) = F395 (pg) (9 : Int) from hM730 _ _ ho430.1 (own_z ho430.1) (by rw [ho430.2]; rfl)))))
      have q786 : F772 (me) (3 : Int) = F395 (me) (3 : Int) := ((show F772 (me) (3 : Int) = F768 (me) (3 : Int) from by rw [eF772]; exact uF_j (by decide)).trans ((show F768 (me) (3 : Int) = F765 (me) (3 : Int) from by rw [eF768]; exact uF_j (by decide)).trans ((show F765 (me) (3 : Int) = F727 (me) (3 : Int) from by rw [eF765]; exact uF_j (by decide)).trans (show F727 (me) (3 : Int) = F395 (me) (3 : Int) from hM730 _ _ ho427.1 (own_z ho427.1) (by rw [ho427.2]; rfl)))))
      refine cx_vi (c := 8) (a := me) (st := [rv (gd)]) (as := []) rfl rfl rfl ho754.1 ho754.2 (by decide) rfl ⟨rfl, rfl, (by rw [jS_r, jS_0]; exact Nat.le_of_ble_eq_true rfl)⟩ rfl (k_LParser_readTarget (dd := d) (R := R) (m := m726) (tg := tg726) (ln := ln726) (F := F772) (me := me) (hd := by omega) (hC := hC773) (o_me := ho754.1) (t_me := ho754.2) (sc := sc) (pg := pg) (o_sc := ho757.1) (t_sc := ho757.2) (e_sc := (((show F772 (me) (1 : Int) = F768 (me) (1 : Int) from by rw [eF772]; exact uF_j (by decide)).trans ((show F768 (me) (1 : Int) = F765 (me) (1 : Int) from by rw [eF768]; exact uF_j (by decide)).trans ((show F765 (me) (1 : Int) = F727 (me) (1 : Int) from by rw [eF765]; exact uF_j (by decide)).trans ((show F727 (me) (1 : Int) = F395 (me) (1 : Int) from hM730 _ _ ho427.1 (own_z ho427.1) (by rw [ho427.2]; rfl)).trans (show F395 (me) (1 : Int) = F (me) (1 : Int) from hM399 _ _ o_me (own_z o_me) (by rw [t_me]; rfl)))))).trans e_sc)) (o_pg := ho758.1) (t_pg := ho758.2) (e_pg := (((show F772 (me) (0 : Int) = F768 (me) (0 : Int) from by rw [eF772]; exact uF_j (by decide)).trans ((show F768 (me) (0 : Int) = F765 (me) (0 : Int) from by rw [eF768]; exact uF_j (by decide)).trans ((show F765 (me) (0 : Int) = F727 (me) (0 : Int) from by rw [eF765]; exact uF_j (by decide)).trans ((show F727 (me) (0 : Int) = F395 (me) (0 : Int) from hM730 _ _ ho427.1 (own_z ho427.1) (by rw [ho427.2]; rfl)).trans (show F395 (me) (0 : Int) = F (me) (0 : Int) from hM399 _ _ o_me (own_z o_me) (by rw [t_me]; rfl)))))).trans e_pg)) (p_0 := by omega) (p_1 := by omega) (p_2 := by omega) (p_3 := by omega) (c_NP := c775)) (fun o V_q hq => ?_)
      obtain ⟨m787, tg787, ln787, F788, r789, rfl, rfl, hx790, hC791, hM792, b793, p794, p795, p796, p797, p798, p799, p800, p801, p802, p803, p804, p805, c806, c807, -⟩ | ⟨m808, tg808, ln808, F808, x808, rfl, rfl, hx808, hC808, hM808, ho808, ht808, p809, p810, p811, p812, c813, c814, -⟩ := hq
      rotate_left
      ·
        have c815 : NM m m808 tg808 := NM_t c761 hx808 c814
        have lm816 := hx808.1
        refine Or.inr (Or.inr (Or.inr ⟨_, _, rfl, cx_exc (c := 15) ho808 ht808 (by decide), rfl, ?_⟩))
        have q817 : F772 (sc) (8 : Int) = F395 (sc) (8 : Int) := q777
        have q818 : F772 (sc) (7 : Int) = F (sc) (7 : Int) := q781
        exact Or.inr ⟨m808, tg808, ln808, F808, x808, rfl, rfl, Ex_t hX759 hx808, hC808, Fq_t (ln := ln) (ln1 := ln726) hM774 hX759 hM808 (by decide) (Or.inr (Or.inl rfl)), (And.intro ho808 ht808).1, (And.intro ho808 ht808).2, by omega, by omega, by omega, by omega, c813, c815, trivial⟩
      have hM819 : Fq gd [(9, 3), (10, 0), (10, 1), (10, 2), (10, 9), (11, 8), (11, 12), (11, 13), (11, 14), (11, 15), (11, 16), (11, 17), (11, 18)] m tg F F788 := Fq_t (ln := ln) (ln1 := ln726) hM774 hX759 hM792 (by decide) (Or.inr (Or.inl rfl))
      have lm820 := hx790.1
      have lt821 : gd < 64 + (m726 : Int) := ho755.1.2.1
      have lt822 : r396 < 64 + (m726 : Int) := ho756.1.2.1
      have ho823 : own m787 (me) ∧ tg787 (me) = 9 := Ex_o hx790 ⟨ho754.1, ho754.2⟩
      have ho824 : own m787 (gd) ∧ tg787 (gd) = 8 := Ex_o hx790 ⟨ho755.1, ho755.2⟩
      have ho825 : own m787 (r396) ∧ tg787 (r396) = 8 := Ex_o hx790 ⟨ho756.1, ho756.2⟩
      have ho826 : own m787 (sc) ∧ tg787 (sc) = 11 := Ex_o hx790 ⟨ho757.1, ho757.2⟩
      have ho827 : own m787 (pg) ∧ tg787 (pg) = 10 := Ex_o hx790 ⟨ho758.1, ho758.2⟩
      have hX828 := Ex_t hX759 hx790
      have q829 := p802.1
      have q830 := p802.2.1
      have q831 := p802.2.2.1
      have c832 : NM m m787 tg787 := NM_t c761 hx790 c807
      refine Or.inr (Or.inl ⟨_, rfl, ?_⟩)
      have q833 := p802.1
      have q834 := p802.2.1
      have q835 := p802.2.2.1
      rw [← cV_gh (F := F788) (a := r789) (j := 100) (z := 20) (Or.inr ⟨by decide, by rw [b793.2]; decide⟩)]
      obtain ⟨F836, eF836⟩ : ∃ q, q = uF F788 (r789) (100 : Int) (20) := ⟨_, rfl⟩
      rw [← eF836]
      have hC837 : HC 0 m787 tg787 ln787 F836 := by rw [eF836]; exact HC_gh hC791 (by rw [b793.2]; decide) (by decide)
      have hM838 : Fq gd [(9, 3), (10, 0), (10, 1), (10, 2), (10, 9), (11, 8), (11, 12), (11, 13), (11, 14), (11, 15), (11, 16), (11, 17), (11, 18)] m tg F F836 := by rw [eF836]; exact Fq_x hM819 (Or.inr (by have := hX828.1; omega))
      rw [← cV_gh (F := F836) (a := r789) (j := 103) (z := 1) (Or.inr ⟨by decide, by rw [b793.2]; decide⟩)]
      obtain ⟨F839, eF839⟩ : ∃ q, q = uF F836 (r789) (103 : Int) (1) := ⟨_, rfl⟩
      rw [← eF839]
      have hC840 : HC 0 m787 tg787 ln787 F839 := by rw [eF839]; exact HC_gh hC837 (by rw [b793.2]; decide) (by decide)
      have hM841 : Fq gd [(9, 3), (10, 0), (10, 1), (10, 2), (10, 9), (11, 8), (11, 12), (11, 13), (11, 14), (11, 15), (11, 16), (11, 17), (11, 18)] m tg F F839 := by rw [eF839]; exact Fq_x hM838 (Or.inr (by have := hX828.1; omega))
      have c842 : NP m787 tg787 F839 := by rw [eF839, eF836]; exact NP_seal hC791 c806 b793.1 b793.2 p802 (by omega)
      refine cx_po (pc_q := 62) (c := 7) (q := 6) (qi := (6 : Int)) (z := r789) rfl rfl (by decide) (by decide) rfl rfl rfl (by decide) rfl ho824.1 ho824.2 rfl ?_
      obtain ⟨F843, eF843⟩ : ∃ q, q = uF F839 (gd) (6 : Int) (r789) := ⟨_, rfl⟩
      rw [← eF843]
      have hC844 : HC 0 m787 tg787 ln787 F843 := by rw [eF843]; exact HC_fr (c := 7) (q := 6) (by decide) hC840 ho824.2 (by decide) rfl (Or.inr ⟨b793.1, b793.2⟩) ⟨fun w => absurd w (by decide), fun w => absurd w (by decide)⟩
      have hM845 : Fq gd [(9, 3), (10, 0), (10, 1), (10, 2), (10, 9), (11, 8), (11, 12), (11, 13), (11, 14), (11, 15), (11, 16), (11, 17), (11, 18)] m tg F F843 := by rw [eF843]; exact Fq_x hM841 (Or.inl rfl)
      have c846 : NP m787 tg787 F843 := by rw [eF843]; exact NP_un hC840 c842 ho824.1 ho824.2 (by rw [show F839 (gd) (103 : Int) = F (gd) (103 : Int) from ((show F839 (gd) (103 : Int) = F836 (gd) (103 : Int) from by rw [eF839]; exact uF_a (by omega)).trans ((show F836 (gd) (103 : Int) = F788 (gd) (103 : Int) from by rw [eF836]; exact uF_j (by decide)).trans ((show F788 (gd) (103 : Int) = F772 (gd) (103 : Int) from hM792 _ _ ho755.1 (own_z ho755.1) (by rw [ho755.2]; rfl)).trans ((show F772 (gd) (103 : Int) = F768 (gd) (103 : Int) from by rw [eF772]; exact uF_j (by decide)).trans ((show F768 (gd) (103 : Int) = F765 (gd) (103 : Int) from by rw [eF768]; exact uF_a (by omega)).trans ((show F765 (gd) (103 : Int) = F727 (gd) (103 : Int) from by rw [eF765]; exact uF_j (by decide)).trans ((show F727 (gd) (103 : Int) = F395 (gd) (103 : Int) from hM730 _ _ ho428.1 (own_z ho428.1) (by rw [ho428.2]; rfl)).trans (show F395 (gd) (103 : Int) = F (gd) (103 : Int) from hM399 _ _ o_gd (own_z o_gd) (by rw [t_gd]; rfl)))))))))]; omega) (by decide) (Or.inl (by decide))
      refine jx_rt (v := none) rfl rfl rfl rfl rfl rfl ?_
      have q847 : F843 (sc) (7 : Int) = F (sc) (7 : Int) := ((show F843 (sc) (7 : Int) = F839 (sc) (7 : Int) from by rw [eF843]; exact uF_j (by decide)).trans ((show F839 (sc) (7 : Int) = F836 (sc) (7 : Int) from by rw [eF839]; exact uF_j (by decide)).trans ((show F836 (sc) (7 : Int) = F788 (sc) (7 : Int) from by rw [eF836]; exact uF_j (by decide)).trans ((show F788 (sc) (7 : Int) = F772 (sc) (7 : Int) from hM792 _ _ ho757.1 (own_z ho757.1) (by rw [ho757.2]; rfl)).trans q781))))
      have q848 : F843 (sc) (8 : Int) = F788 (sc) (8 : Int) := ((show F843 (sc) (8 : Int) = F839 (sc) (8 : Int) from by rw [eF843]; exact uF_j (by decide)).trans ((show F839 (sc) (8 : Int) = F836 (sc) (8 : Int) from by rw [eF839]; exact uF_j (by decide)).trans (show F836 (sc) (8 : Int) = F788 (sc) (8 : Int) from by rw [eF836]; exact uF_j (by decide))))
      have q849 : F843 (pg) (9 : Int) = F788 (pg) (9 : Int) := ((show F843 (pg) (9 : Int) = F839 (pg) (9 : Int) from by rw [eF843]; exact uF_j (by decide)).trans ((show F839 (pg) (9 : Int) = F836 (pg) (9 : Int) from by rw [eF839]; exact uF_j (by decide)).trans (show F836 (pg) (9 : Int) = F788 (pg) (9 : Int) from by rw [eF836]; exact uF_j (by decide))))
      have q850 : F843 (sc) (8 : Int) = F788 (sc) (8 : Int) := q848
      have q851 : F843 (sc) (15 : Int) = F788 (sc) (15 : Int) := ((show F843 (sc) (15 : Int) = F839 (sc) (15 : Int) from by rw [eF843]; exact uF_j (by decide)).trans ((show F839 (sc) (15 : Int) = F836 (sc) (15 : Int) from by rw [eF839]; exact uF_j (by decide)).trans (show F836 (sc) (15 : Int) = F788 (sc) (15 : Int) from by rw [eF836]; exact uF_j (by decide))))
      have q852 : tz (F843 (sc) (15 : Int)) = tz (F788 (sc) (15 : Int)) := by rw [q851]
      have q853 := tz_b (F788 (sc) (15 : Int))
      have q854 : F843 (sc) (14 : Int) = F788 (sc) (14 : Int) := ((show F843 (sc) (14 : Int) = F839 (sc) (14 : Int) from by rw [eF843]; exact uF_j (by decide)).trans ((show F839 (sc) (14 : Int) = F836 (sc) (14 : Int) from by rw [eF839]; exact uF_j (by decide)).trans (show F836 (sc) (14 : Int) = F788 (sc) (14 : Int) from by rw [eF836]; exact uF_j (by decide))))
      have q855 : lz (F843 (sc) (14 : Int)) = lz (F788 (sc) (14 : Int)) := by rw [q854]
      have q856 := lz_b (F788 (sc) (14 : Int))
      have q857 : F843 (pg) (9 : Int) = F788 (pg) (9 : Int) := q849
      have q858 : F843 (gd) (0 : Int) = F (gd) (0 : Int) := ((show F843 (gd) (0 : Int) = F839 (gd) (0 : Int) from by rw [eF843]; exact uF_j (by decide)).trans ((show F839 (gd) (0 : Int) = F836 (gd) (0 : Int) from by rw [eF839]; exact uF_j (by decide)).trans ((show F836 (gd) (0 : Int) = F788 (gd) (0 : Int) from by rw [eF836]; exact uF_j (by decide)).trans ((show F788 (gd) (0 : Int) = F772 (gd) (0 : Int) from hM792 _ _ ho755.1 (own_z ho755.1) (by rw [ho755.2]; rfl)).trans ((show F772 (gd) (0 : Int) = F768 (gd) (0 : Int) from by rw [eF772]; exact uF_j (by decide)).trans ((show F768 (gd) (0 : Int) = F765 (gd) (0 : Int) from by rw [eF768]; exact uF_j (by decide)).trans ((show F765 (gd) (0 : Int) = F727 (gd) (0 : Int) from by rw [eF765]; exact uF_j (by decide)).trans ((show F727 (gd) (0 : Int) = F395 (gd) (0 : Int) from hM730 _ _ ho428.1 (own_z ho428.1) (by rw [ho428.2]; rfl)).trans (show F395 (gd) (0 : Int) = F (gd) (0 : Int) from hM399 _ _ o_gd (own_z o_gd) (by rw [t_gd]; rfl))))))))))
      exact Or.inl ⟨m787, tg787, ln787, F843, rfl, rfl, hX828, hC844, hM845, by omega, by omega, by omega, by omega, by omega, by omega, by omega, (WK_i (K := 21) (by rw [show F843 (gd) (103 : Int) = F (gd) (103 : Int) from ((show F843 (gd) (103 : Int) = F839 (gd) (103 : Int) from by rw [eF843]; exact uF_j (by decide)).trans ((show F839 (gd) (103 : Int) = F836 (gd) (103 : Int) from by rw [eF839]; exact uF_a (by omega)).trans ((show F836 (gd) (103 : Int) = F788 (gd) (103 : Int) from by rw [eF836]; exact uF_j (by decide)).trans ((show F788 (gd) (103 : Int) = F772 (gd) (103 : Int) from hM792 _ _ ho755.1 (own_z ho755.1) (by rw [ho755.2]; rfl)).trans ((show F772 (gd) (103 : Int) = F768 (gd) (103 : Int) from by rw [eF772]; exact uF_j (by decide)).trans ((show F768 (gd) (103 : Int) = F765 (gd) (103 : Int) from by rw [eF768]; exact uF_a (by omega)).trans ((show F765 (gd) (103 : Int) = F727 (gd) (103 : Int) from by rw [eF765]; exact uF_j (by decide)).trans ((show F727 (gd) (103 : Int) = F395 (gd) (103 : Int) from hM730 _ _ ho428.1 (own_z ho428.1) (by rw [ho428.2]; rfl)).trans (show F395 (gd) (103 : Int) = F (gd) (103 : Int) from hM399 _ _ o_gd (own_z o_gd) (by rw [t_gd]; rfl))))))))))]; omega) (by rw [show F843 (gd) (101 : Int) = F (gd) (101 : Int) from ((show F843 (gd) (101 : Int) = F839 (gd) (101 : Int) from by rw [eF843]; exact uF_j (by decide)).trans ((show F839 (gd) (101 : Int) = F836 (gd) (101 : Int) from by rw [eF839]; exact uF_j (by decide)).trans ((show F836 (gd) (101 : Int) = F788 (gd) (101 : Int) from by rw [eF836]; exact uF_j (by decide)).trans ((show F788 (gd) (101 : Int) = F772 (gd) (101 : Int) from hM792 _ _ ho755.1 (own_z ho755.1) (by rw [ho755.2]; rfl)).trans ((show F772 (gd) (101 : Int) = F768 (gd) (101 : Int) from by rw [eF772]; exact uF_j (by decide)).trans ((show F768 (gd) (101 : Int) = F765 (gd) (101 : Int) from by rw [eF768]; exact uF_j (by decide)).trans ((show F765 (gd) (101 : Int) = F727 (gd) (101 : Int) from by rw [eF765]; exact uF_j (by decide)).trans ((show F727 (gd) (101 : Int) = F395 (gd) (101 : Int) from hM730 _ _ ho428.1 (own_z ho428.1) (by rw [ho428.2]; rfl)).trans (show F395 (gd) (101 : Int) = F (gd) (101 : Int) from hM399 _ _ o_gd (own_z o_gd) (by rw [t_gd]; rfl))))))))))]; omega) (by rw [show F843 (gd) (8 : Int) = F (gd) (8 : Int) from ((show F843 (gd) (8 : Int) = F839 (gd) (8 : Int) from by rw [eF843]; exact uF_j (by decide)).trans ((show F839 (gd) (8 : Int) = F836 (gd) (8 : Int) from by rw [eF839]; exact uF_j (by decide)).trans ((show F836 (gd) (8 : Int) = F788 (gd) (8 : Int) from by rw [eF836]; exact uF_j (by decide)).trans ((show F788 (gd) (8 : Int) = F772 (gd) (8 : Int) from hM792 _ _ ho755.1 (own_z ho755.1) (by rw [ho755.2]; rfl)).trans ((show F772 (gd) (8 : Int) = F768 (gd) (8 : Int) from by rw [eF772]; exact uF_j (by decide)).trans ((show F768 (gd) (8 : Int) = F765 (gd) (8 : Int) from by rw [eF768]; exact uF_j (by decide)).trans ((show F765 (gd) (8 : Int) = F727 (gd) (8 : Int) from by rw [eF765]; exact uF_j (by decide)).trans ((show F727 (gd) (8 : Int) = F395 (gd) (8 : Int) from hM730 _ _ ho428.1 (own_z ho428.1) (by rw [ho428.2]; rfl)).trans (show F395 (gd) (8 : Int) = F (gd) (8 : Int) from hM399 _ _ o_gd (own_z o_gd) (by rw [t_gd]; rfl))))))))))]; omega) (Or.inl (by rw [show F843 (gd) (4 : Int) = F (gd) (4 : Int) from ((show F843 (gd) (4 : Int) = F839 (gd) (4 : Int) from by rw [eF843]; exact uF_j (by decide)).trans ((show F839 (gd) (4 : Int) = F836 (gd) (4 : Int) from by rw [eF839]; exact uF_j (by decide)).trans ((show F836 (gd) (4 : Int) = F788 (gd) (4 : Int) from by rw [eF836]; exact uF_j (by decide)).trans ((show F788 (gd) (4 : Int) = F772 (gd) (4 : Int) from hM792 _ _ ho755.1 (own_z ho755.1) (by rw [ho755.2]; rfl)).trans ((show F772 (gd) (4 : Int) = F768 (gd) (4 : Int) from by rw [eF772]; exact uF_j (by decide)).trans ((show F768 (gd) (4 : Int) = F765 (gd) (4 : Int) from by rw [eF768]; exact uF_j (by decide)).trans ((show F765 (gd) (4 : Int) = F727 (gd) (4 : Int) from by rw [eF765]; exact uF_j (by decide)).trans ((show F727 (gd) (4 : Int) = F395 (gd) (4 : Int) from hM730 _ _ ho428.1 (own_z ho428.1) (by rw [ho428.2]; rfl)).trans (show F395 (gd) (4 : Int) = F (gd) (4 : Int) from hM399 _ _ o_gd (own_z o_gd) (by rw [t_gd]; rfl))))))))))]; omega)) (Or.inr (by rw [show F843 (gd) (5 : Int) = r396 from ((show F843 (gd) (5 : Int) = F839 (gd) (5 : Int) from by rw [eF843]; exact uF_j (by decide)).trans ((show F839 (gd) (5 : Int) = F836 (gd) (5 : Int) from by rw [eF839]; exact uF_j (by decide)).trans ((show F836 (gd) (5 : Int) = F788 (gd) (5 : Int) from by rw [eF836]; exact uF_j (by decide)).trans ((show F788 (gd) (5 : Int) = F772 (gd) (5 : Int) from hM792 _ _ ho755.1 (own_z ho755.1) (by rw [ho755.2]; rfl)).trans (show F772 (gd) (5 : Int) = r396 from by rw [eF772]; exact uF_e)))))]; exact ⟨((show F843 (r396) (103 : Int) = F839 (r396) (103 : Int) from by rw [eF843]; exact uF_j (by decide)).trans ((show F839 (r396) (103 : Int) = F836 (r396) (103 : Int) from by rw [eF839]; exact uF_a (by omega)).trans ((show F836 (r396) (103 : Int) = F788 (r396) (103 : Int) from by rw [eF836]; exact uF_j (by decide)).trans ((show F788 (r396) (103 : Int) = F772 (r396) (103 : Int) from hM792 _ _ ho756.1 (own_z ho756.1) (by rw [ho756.2]; rfl)).trans ((show F772 (r396) (103 : Int) = F768 (r396) (103 : Int) from by rw [eF772]; exact uF_j (by decide)).trans (show F768 (r396) (103 : Int) = 1 from by rw [eF768]; exact uF_e)))))), (by rw [show F843 (r396) (100 : Int) = 20 from ((show F843 (r396) (100 : Int) = F839 (r396) (100 : Int) from by rw [eF843]; exact uF_j (by decide)).trans ((show F839 (r396) (100 : Int) = F836 (r396) (100 : Int) from by rw [eF839]; exact uF_j (by decide)).trans ((show F836 (r396) (100 : Int) = F788 (r396) (100 : Int) from by rw [eF836]; exact uF_a (by omega)).trans ((show F788 (r396) (100 : Int) = F772 (r396) (100 : Int) from hM792 _ _ ho756.1 (own_z ho756.1) (by rw [ho756.2]; rfl)).trans ((show F772 (r396) (100 : Int) = F768 (r396) (100 : Int) from by rw [eF772]; exact uF_j (by decide)).trans ((show F768 (r396) (100 : Int) = F765 (r396) (100 : Int) from by rw [eF768]; exact uF_j (by decide)).trans (show F765 (r396) (100 : Int) = 20 from by rw [eF765]; exact uF_e)))))))]; omega), (by rw [show F843 (r396) (100 : Int) = 20 from ((show F843 (r396) (100 : Int) = F839 (r396) (100 : Int) from by rw [eF843]; exact uF_j (by decide)).trans ((show F839 (r396) (100 : Int) = F836 (r396) (100 : Int) from by rw [eF839]; exact uF_j (by decide)).trans ((show F836 (r396) (100 : Int) = F788 (r396) (100 : Int) from by rw [eF836]; exact uF_a (by omega)).trans ((show F788 (r396) (100 : Int) = F772 (r396) (100 : Int) from hM792 _ _ ho756.1 (own_z ho756.1) (by rw [ho756.2]; rfl)).trans ((show F772 (r396) (100 : Int) = F768 (r396) (100 : Int) from by rw [eF772]; exact uF_j (by decide)).trans ((show F768 (r396) (100 : Int) = F765 (r396) (100 : Int) from by rw [eF768]; exact uF_j (by decide)).trans (show F765 (r396) (100 : Int) = 20 from by rw [eF765]; exact uF_e)))))))]; omega)⟩)) (Or.inr (by rw [show F843 (gd) (6 : Int) = r789 from (show F843 (gd) (6 : Int) = r789 from by rw [eF843]; exact uF_e)]; exact ⟨((show F843 (r789) (103 : Int) = F839 (r789) (103 : Int) from by rw [eF843]; exact uF_j (by decide)).trans (show F839 (r789) (103 : Int) = 1 from by rw [eF839]; exact uF_e)), (by rw [show F843 (r789) (100 : Int) = 20 from ((show F843 (r789) (100 : Int) = F839 (r789) (100 : Int) from by rw [eF843]; exact uF_j (by decide)).trans ((show F839 (r789) (100 : Int) = F836 (r789) (100 : Int) from by rw [eF839]; exact uF_j (by decide)).trans (show F836 (r789) (100 : Int) = 20 from by rw [eF836]; exact uF_e)))]; omega), (by rw [show F843 (r789) (100 : Int) = 20 from ((show F843 (r789) (100 : Int) = F839 (r789) (100 : Int) from by rw [eF843]; exact uF_j (by decide)).trans ((show F839 (r789) (100 : Int) = F836 (r789) (100 : Int) from by rw [eF839]; exact uF_j (by decide)).trans (show F836 (r789) (100 : Int) = 20 from by rw [eF836]; exact uF_e)))]; omega)⟩)) (Or.inl (by rw [show F843 (gd) (7 : Int) = F (gd) (7 : Int) from ((show F843 (gd) (7 : Int) = F839 (gd) (7 : Int) from by rw [eF843]; exact uF_j (by decide)).trans ((show F839 (gd) (7 : Int) = F836 (gd) (7 : Int) from by rw [eF839]; exact uF_j (by decide)).trans ((show F836 (gd) (7 : Int) = F788 (gd) (7 : Int) from by rw [eF836]; exact uF_j (by decide)).trans ((show F788 (gd) (7 : Int) = F772 (gd) (7 : Int) from hM792 _ _ ho755.1 (own_z ho755.1) (by rw [ho755.2]; rfl)).trans ((show F772 (gd) (7 : Int) = F768 (gd) (7 : Int) from by rw [eF772]; exact uF_j (by decide)).trans ((show F768 (gd) (7 : Int) = F765 (gd) (7 : Int) from by rw [eF768]; exact uF_j (by decide)).trans ((show F765 (gd) (7 : Int) = F727 (gd) (7 : Int) from by rw [eF765]; exact uF_j (by decide)).trans ((show F727 (gd) (7 : Int) = F395 (gd) (7 : Int) from hM730 _ _ ho428.1 (own_z ho428.1) (by rw [ho428.2]; rfl)).trans (show F395 (gd) (7 : Int) = F (gd) (7 : Int) from hM399 _ _ o_gd (own_z o_gd) (by rw [t_gd]; rfl))))))))))]; omega)) (Or.inl (by rw [show F843 (gd) (0 : Int) = F (gd) (0 : Int) from q858]; omega))), by omega, c846, c832, trivial⟩
