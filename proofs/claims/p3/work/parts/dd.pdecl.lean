set_option maxRecDepth 20000 in
set_option maxHeartbeats 4000000 in
theorem k_LParser_readDeclaration_at_111 {X : jX} {d : Nat} {R : Nat → jC} {m : Nat} {tg ln : Int → Int} {F : Int → Int → Int} {me : Int} (hd : 70 ≤ d + 1) (hC : HC 0 m tg ln F) {sc pg : Int} (o_sc : own m sc) (t_sc : tg sc = 11) (e_sc : F me (1 : Int) = sc) (o_pg : own m pg) (t_pg : tg pg = 10) (e_pg : F me (0 : Int) = pg) (o_me : own m me) (t_me : tg me = 9) (p_0 : F sc (8 : Int) + 2 * tz (F sc (15 : Int)) ≤ F sc (7 : Int) + 1) (p_1 : F sc (8 : Int) + 2 * lz (F sc (14 : Int)) ≤ F sc (7 : Int) + 1) (p_2 : F sc (8 : Int) ≤ F sc (7 : Int)) (c_NP : NP m tg F) : ∀ (mm : Nat) (L : jL) (mx : Nat) (tgx lnx : Int → Int) (Fx : Int → Int → Int) (sz kd k bf fi tp : Int), (3000 - k).toNat = mm → jGet L 0 = some (rv (me)) → jGet L 1 = some (.int (i32 sz)) → jGet L 4 = some (.int (i32 kd)) → jGet L 7 = some (.int (i32 k)) → jGet L 5 = some (rv bf) → jGet L 6 = some (rv fi) → Ex m tg ln mx tgx lnx → HC 0 mx tgx lnx Fx → Fq 0 [(7, 15), (9, 2), (9, 3), (10, 0), (10, 1), (10, 2), (10, 8), (11, 8), (11, 12), (11, 13), (11, 14), (11, 15), (11, 16), (11, 17), (11, 18)] m tg F Fx → ((-2147483648 : Int) ≤ sz ∧ sz ≤ 2147483647) → ((-2147483648 : Int) ≤ kd ∧ kd ≤ 2147483647) → ((-2147483648 : Int) ≤ k ∧ k ≤ 2147483647) → (bf = 0 ∨ (own mx bf ∧ tgx bf = 7)) → (fi = 0 ∨ (own mx fi ∧ tgx fi = 7)) → (Fx sc (8 : Int) + 2 * tz (Fx sc (15 : Int)) ≤ F sc (7 : Int) + 1) → (Fx sc (8 : Int) + 2 * lz (Fx sc (14 : Int)) ≤ F sc (7 : Int) + 1) → (Fx sc (8 : Int) ≤ F sc (7 : Int)) → (Fx pg (9 : Int) ≤ F pg (9 : Int) + ((mx : Int) - (m : Int))) → (F sc (8 : Int) ≤ Fx sc (8 : Int)) → (szD mx tgx lnx = szD m tg ln + 25 * ((mx : Int) - (m : Int))) → ((mx : Int) ≤ (m : Int) + (Fx sc (8 : Int) - F sc (8 : Int)) + (0)) → (0 ≤ k) → (k ≤ 3000) → (k = 0 ∨ fi ≠ 0) → (fi = 0 ∨ (64 + (m : Int) ≤ fi ∧ 64 + (m : Int) ≤ tp ∧ Fx tp (14 : Int) = 0)) → (NP mx tgx Fx) → (NM m mx tgx) → Fx me (2 : Int) = tp → (tp = 0 ∨ (own mx tp ∧ tgx tp = 7)) → wj X d jm179 (111, L, [], cV R mx tgx lnx Fx) (fun o V_q => (∃ (m_q : Nat) (tg_q ln_q : Int → Int) (F_q : Int → Int → Int) (r : Int), V_q = cV R m_q tg_q ln_q F_q ∧ o = .inl (some (rv r)) ∧ Ex m tg ln m_q tg_q ln_q ∧ HC 0 m_q tg_q ln_q F_q ∧ Fq 0 [(7, 15), (9, 2), (9, 3), (10, 0), (10, 1), (10, 2), (10, 8), (11, 8), (11, 12), (11, 13), (11, 14), (11, 15), (11, 16), (11, 17), (11, 18)] m tg F F_q ∧ (own m_q r ∧ tg_q r = 7) ∧ (F_q sc (8 : Int) + 2 * tz (F_q sc (15 : Int)) ≤ F sc (7 : Int) + 1) ∧ (F_q sc (8 : Int) + 2 * lz (F_q sc (14 : Int)) ≤ F sc (7 : Int) + 1) ∧ (F sc (8 : Int) ≤ F_q sc (8 : Int)) ∧ (szD m_q tg_q ln_q = szD m tg ln + 25 * ((m_q : Int) - (m : Int))) ∧ ((m_q : Int) ≤ (m : Int) + (F_q sc (8 : Int) - F sc (8 : Int)) + (0)) ∧ (F_q pg (9 : Int) ≤ F pg (9 : Int) + ((m_q : Int) - (m : Int))) ∧ (64 + (m : Int) ≤ r) ∧ (64 + (m : Int) ≤ F_q me (2 : Int)) ∧ (F_q (F_q me (2 : Int)) (14 : Int) = 0) ∧ (NP m_q tg_q F_q) ∧ (NM m m_q tg_q) ∧ True) ∨ (∃ (m_q : Nat) (tg_q ln_q : Int → Int) (F_q : Int → Int → Int) (x : Nat), V_q = cV R m_q tg_q ln_q F_q ∧ o = .inr x ∧ Ex m tg ln m_q tg_q ln_q ∧ HC 0 m_q tg_q ln_q F_q ∧ Fq 0 [(7, 15), (9, 2), (9, 3), (10, 0), (10, 1), (10, 2), (10, 8), (11, 8), (11, 12), (11, 13), (11, 14), (11, 15), (11, 16), (11, 17), (11, 18)] m tg F F_q ∧ (own m_q (x : Int)) ∧ (tg_q (x : Int) = 16) ∧ (F_q pg (0 : Int) ≠ 0) ∧ (szD m_q tg_q ln_q = szD m tg ln + 25 * ((m_q : Int) - (m : Int))) ∧ ((m_q : Int) ≤ (m : Int) + (F_q sc (8 : Int) - F sc (8 : Int)) + (1)) ∧ (F_q sc (8 : Int) ≤ F sc (7 : Int) + 1) ∧ (NP m_q tg_q F_q) ∧ (NM m m_q tg_q) ∧ True)) := by
  intro mm
  induction mm using Nat.strongRecOn with
  | ind mm ih =>
    intro L mx tgx lnx Fx sz kd k bf fi tp hmm gL_0 gL_1 gL_4 gL_7 gL_5 gL_6 hXx hCx hMx rx_sz rx_kd rx_k yx_bf yx_fi iv_0 iv_1 iv_2 iv_3 iv_4 iv_5 iv_6 iv_7 iv_8 iv_9 iv_10 cx_NP cx_NM gv_tp yx_tp
    have hX0 : Ex m tg ln m tg ln := Ex_r
    have lm1 := hXx.1
    have ho2 : own mx (me) ∧ tgx (me) = 9 := Ex_o hXx ⟨o_me, t_me⟩
    have ho3 : own mx (sc) ∧ tgx (sc) = 11 := Ex_o hXx ⟨o_sc, t_sc⟩
    have ho4 : own mx (pg) ∧ tgx (pg) = 10 := Ex_o hXx ⟨o_pg, t_pg⟩
    have hX5 := Ex_t hX0 hXx
    have tb0 := tz_b (F sc (15 : Int))
    have lb0 := lz_b (F sc (14 : Int))
    have tb1 := tz_b (Fx sc (15 : Int))
    have lb1 := lz_b (Fx sc (14 : Int))
    have ob0 : (0 : Int) ≤ F me (3 : Int) ∧ F me (3 : Int) ≤ 8 := HC_i (c := 8) (q := 3) hC o_me t_me (by decide) rfl
    have tp0 : F me (2 : Int) < 64 + (m : Int) := by
      have z : F me (2 : Int) = 0 ∨ (own m (F me (2 : Int)) ∧ tg (F me (2 : Int)) = 7) := HC_r (c := 8) (q := 2) hC o_me t_me (by decide) rfl
      rcases z with w | w
      · omega
      · exact w.1.2.1
    by_cases h6 : tp = 0
    · have _q := h6
      refine jx_ld (pc_q := 113) (l_q := L) (st_q := [.int (i32 (k))]) rfl (jl_iload gL_7) ?_
      refine jx_ar (pc_q := 116) (st_q := [.int (i32 (3000)), .int (i32 (k))]) rfl rfl rfl rfl ?_
      refine jx_icmp_ge (pc_q := 119) (tg := 196) rfl rfl rfl (by omega) (by omega) (by decide) (by decide) (fun h7 => ?_) (fun h7 => ?_)
      · have _q := h7
        refine jx_ld (pc_q := 197) (l_q := L) (st_q := [rv (me)]) rfl (jl_rvn gL_0) ?_
        refine jx_ar (pc_q := 199) (st_q := [.int (i32 (53)), rv (me)]) rfl rfl rfl rfl ?_
        have q8 := tz_b (Fx (sc) (15 : Int))
        have q9 : Fx (sc) (7 : Int) = F (sc) (7 : Int) := (show Fx (sc) (7 : Int) = F (sc) (7 : Int) from hMx _ _ o_sc (own_z o_sc) (by rw [t_sc]; rfl))
        have q10 := lz_b (Fx (sc) (14 : Int))
        have q11 : Fx (pg) (9 : Int) = F (pg) (9 : Int) := (show Fx (pg) (9 : Int) = F (pg) (9 : Int) from hMx _ _ o_pg (own_z o_pg) (by rw [t_pg]; rfl))
        refine cx_vi (c := 8) (a := me) (st := []) (as := [.int (i32 (53))]) rfl rfl rfl ho2.1 ho2.2 (by decide) rfl ⟨rfl, rfl, (Nat.le_of_ble_eq_true rfl)⟩ rfl (k_LParser_expect (dd := d) (R := R) (m := mx) (tg := tgx) (ln := lnx) (F := Fx) (me := me) (tk := 53) (hd := by omega) (hC := hCx) (o_me := ho2.1) (t_me := ho2.2) (h_tk := by omega) (sc := sc) (pg := pg) (o_sc := ho3.1) (t_sc := ho3.2) (e_sc := ((show Fx (me) (1 : Int) = F (me) (1 : Int) from hMx _ _ o_me (own_z o_me) (by rw [t_me]; rfl)).trans e_sc)) (o_pg := ho4.1) (t_pg := ho4.2) (e_pg := ((show Fx (me) (0 : Int) = F (me) (0 : Int) from hMx _ _ o_me (own_z o_me) (by rw [t_me]; rfl)).trans e_pg)) (p_0 := by omega) (p_1 := by omega) (p_2 := by omega) (p_3 := by omega) (c_NP := cx_NP)) (fun o V_q hq => ?_)
        obtain ⟨m12, tg12, ln12, F13, rfl, rfl, hx14, hC15, hM16, p17, p18, p19, p20, p21, p22, p23, c24, c25, -⟩ | ⟨m26, tg26, ln26, F26, x26, rfl, rfl, hx26, hC26, hM26, ho26, ht26, p27, p28, p29, p30, c31, c32, -⟩ := hq
        rotate_left
        ·
          have c33 : NM m m26 tg26 := NM_t cx_NM hx26 c32
          have lm34 := hx26.1
          refine Or.inr (Or.inr (Or.inr ⟨_, _, rfl, cx_exc (c := 15) ho26 ht26 (by decide), rfl, ?_⟩))
          have q35 : Fx (sc) (7 : Int) = F (sc) (7 : Int) := (show Fx (sc) (7 : Int) = F (sc) (7 : Int) from hMx _ _ o_sc (own_z o_sc) (by rw [t_sc]; rfl))
          exact Or.inr ⟨m26, tg26, ln26, F26, x26, rfl, rfl, Ex_t hXx hx26, hC26, Fq_t (ln := ln) (ln1 := lnx) hMx hXx hM26 (by decide) (Or.inl rfl), (And.intro ho26 ht26).1, (And.intro ho26 ht26).2, by omega, by omega, by omega, by omega, c31, c33, trivial⟩
        have hM36 : Fq 0 [(7, 15), (9, 2), (9, 3), (10, 0), (10, 1), (10, 2), (10, 8), (11, 8), (11, 12), (11, 13), (11, 14), (11, 15), (11, 16), (11, 17), (11, 18)] m tg F F13 := Fq_t (ln := ln) (ln1 := lnx) hMx hXx hM16 (by decide) (Or.inl rfl)
        have lm37 := hx14.1
        have lt38 : bf < 64 + (mx : Int) := by rcases yx_bf with w | w; (· omega); exact w.1.2.1
        have lt39 : fi < 64 + (mx : Int) := by rcases yx_fi with w | w; (· omega); exact w.1.2.1
        have lt40 : tp < 64 + (mx : Int) := by rcases yx_tp with w | w; (· omega); exact w.1.2.1
        have ho41 : own m12 (me) ∧ tg12 (me) = 9 := Ex_o hx14 ⟨ho2.1, ho2.2⟩
        have y42 : bf = 0 ∨ (own m12 (bf) ∧ tg12 (bf) = 7) := Ex_z hx14 yx_bf
        have y43 : fi = 0 ∨ (own m12 (fi) ∧ tg12 (fi) = 7) := Ex_z hx14 yx_fi
        have ho44 : own m12 (sc) ∧ tg12 (sc) = 11 := Ex_o hx14 ⟨ho3.1, ho3.2⟩
        have ho45 : own m12 (pg) ∧ tg12 (pg) = 10 := Ex_o hx14 ⟨ho4.1, ho4.2⟩
        have y46 : tp = 0 ∨ (own m12 (tp) ∧ tg12 (tp) = 7) := Ex_z hx14 yx_tp
        have hX47 := Ex_t hXx hx14
        have c48 : NM m m12 tg12 := NM_t cx_NM hx14 c25
        refine Or.inl ⟨rfl, ?_⟩
        refine jx_ld (pc_q := 203) (l_q := L) (st_q := [rv (me)]) rfl (jl_rvn gL_0) ?_
        have q49 := tz_b (F13 (sc) (15 : Int))
        have q50 : F13 (sc) (7 : Int) = F (sc) (7 : Int) := ((show F13 (sc) (7 : Int) = Fx (sc) (7 : Int) from hM16 _ _ ho3.1 (own_z ho3.1) (by rw [ho3.2]; rfl)).trans (show Fx (sc) (7 : Int) = F (sc) (7 : Int) from hMx _ _ o_sc (own_z o_sc) (by rw [t_sc]; rfl)))
        have q51 := lz_b (F13 (sc) (14 : Int))
        have q52 : F13 (pg) (9 : Int) = F (pg) (9 : Int) := ((show F13 (pg) (9 : Int) = Fx (pg) (9 : Int) from hM16 _ _ ho4.1 (own_z ho4.1) (by rw [ho4.2]; rfl)).trans (show Fx (pg) (9 : Int) = F (pg) (9 : Int) from hMx _ _ o_pg (own_z o_pg) (by rw [t_pg]; rfl)))
        refine cx_vi (c := 8) (a := me) (st := []) (as := []) rfl rfl rfl ho41.1 ho41.2 (by decide) rfl ⟨rfl, rfl, (Nat.le_of_ble_eq_true rfl)⟩ rfl (k_LParser_endLine (dd := d) (R := R) (m := m12) (tg := tg12) (ln := ln12) (F := F13) (me := me) (hd := by omega) (hC := hC15) (o_me := ho41.1) (t_me := ho41.2) (sc := sc) (pg := pg) (o_sc := ho44.1) (t_sc := ho44.2) (e_sc := (((show F13 (me) (1 : Int) = Fx (me) (1 : Int) from hM16 _ _ ho2.1 (own_z ho2.1) (by rw [ho2.2]; rfl)).trans (show Fx (me) (1 : Int) = F (me) (1 : Int) from hMx _ _ o_me (own_z o_me) (by rw [t_me]; rfl))).trans e_sc)) (o_pg := ho45.1) (t_pg := ho45.2) (e_pg := (((show F13 (me) (0 : Int) = Fx (me) (0 : Int) from hM16 _ _ ho2.1 (own_z ho2.1) (by rw [ho2.2]; rfl)).trans (show Fx (me) (0 : Int) = F (me) (0 : Int) from hMx _ _ o_me (own_z o_me) (by rw [t_me]; rfl))).trans e_pg)) (p_0 := by omega) (p_1 := by omega) (p_2 := by omega) (c_NP := c24)) (fun o V_q hq => ?_)
        obtain ⟨m53, tg53, ln53, F54, rfl, rfl, hx55, hC56, hM57, p58, p59, p60, p61, p62, p63, p64, c65, c66, -⟩ | ⟨m67, tg67, ln67, F67, x67, rfl, rfl, hx67, hC67, hM67, ho67, ht67, p68, p69, p70, p71, c72, c73, -⟩ := hq
        rotate_left
        ·
          have c74 : NM m m67 tg67 := NM_t c48 hx67 c73
          have lm75 := hx67.1
          refine Or.inr (Or.inr (Or.inr ⟨_, _, rfl, cx_exc (c := 15) ho67 ht67 (by decide), rfl, ?_⟩))
          have q76 : F13 (sc) (7 : Int) = F (sc) (7 : Int) := q50
          exact Or.inr ⟨m67, tg67, ln67, F67, x67, rfl, rfl, Ex_t hX47 hx67, hC67, Fq_t (ln := ln) (ln1 := ln12) hM36 hX47 hM67 (by decide) (Or.inl rfl), (And.intro ho67 ht67).1, (And.intro ho67 ht67).2, by omega, by omega, by omega, by omega, c72, c74, trivial⟩
        have hM77 : Fq 0 [(7, 15), (9, 2), (9, 3), (10, 0), (10, 1), (10, 2), (10, 8), (11, 8), (11, 12), (11, 13), (11, 14), (11, 15), (11, 16), (11, 17), (11, 18)] m tg F F54 := Fq_t (ln := ln) (ln1 := ln12) hM36 hX47 hM57 (by decide) (Or.inl rfl)
        have lm78 := hx55.1
        have lt79 : bf < 64 + (m12 : Int) := by rcases y42 with w | w; (· omega); exact w.1.2.1
        have lt80 : fi < 64 + (m12 : Int) := by rcases y43 with w | w; (· omega); exact w.1.2.1
        have lt81 : tp < 64 + (m12 : Int) := by rcases y46 with w | w; (· omega); exact w.1.2.1
        have ho82 : own m53 (me) ∧ tg53 (me) = 9 := Ex_o hx55 ⟨ho41.1, ho41.2⟩
        have y83 : bf = 0 ∨ (own m53 (bf) ∧ tg53 (bf) = 7) := Ex_z hx55 y42
        have y84 : fi = 0 ∨ (own m53 (fi) ∧ tg53 (fi) = 7) := Ex_z hx55 y43
        have ho85 : own m53 (sc) ∧ tg53 (sc) = 11 := Ex_o hx55 ⟨ho44.1, ho44.2⟩
        have ho86 : own m53 (pg) ∧ tg53 (pg) = 10 := Ex_o hx55 ⟨ho45.1, ho45.2⟩
        have y87 : tp = 0 ∨ (own m53 (tp) ∧ tg53 (tp) = 7) := Ex_z hx55 y46
        have hX88 := Ex_t hX47 hx55
        have c89 : NM m m53 tg53 := NM_t c48 hx55 c66
        refine Or.inl ⟨rfl, ?_⟩
        refine jx_ld (pc_q := 208) (l_q := L) (st_q := [rv (fi)]) rfl (jl_rv gL_6) ?_
        refine jx_rt (v := some (rv (fi))) rfl rfl rfl rfl rfl jr_are ?_
        have hn90 : fi ≠ 0 := by omega
        have ho91 : own m53 (fi) ∧ tg53 (fi) = 7 := y84.resolve_left hn90
        have q92 : F54 (sc) (7 : Int) = F (sc) (7 : Int) := ((show F54 (sc) (7 : Int) = F13 (sc) (7 : Int) from hM57 _ _ ho44.1 (own_z ho44.1) (by rw [ho44.2]; rfl)).trans q50)
        have q93 : F54 (pg) (9 : Int) = F (pg) (9 : Int) := ((show F54 (pg) (9 : Int) = F13 (pg) (9 : Int) from hM57 _ _ ho45.1 (own_z ho45.1) (by rw [ho45.2]; rfl)).trans q52)
        have q94 := tz_b (F54 (sc) (15 : Int))
        have q95 := lz_b (F54 (sc) (14 : Int))
        have q96 : F54 (pg) (9 : Int) = F (pg) (9 : Int) := q93
        have q97 : F54 (me) (2 : Int) = tp := (((show F54 (me) (2 : Int) = F13 (me) (2 : Int) from hM57 _ _ ho41.1 (own_z ho41.1) (by rw [ho41.2]; rfl)).trans (show F13 (me) (2 : Int) = Fx (me) (2 : Int) from hM16 _ _ ho2.1 (own_z ho2.1) (by rw [ho2.2]; rfl))).trans gv_tp)
        exact Or.inl ⟨m53, tg53, ln53, F54, (fi), rfl, rfl, hX88, hC56, hM77, ⟨ho91.1, ho91.2⟩, by omega, by omega, by omega, by omega, by omega, by omega, by omega, by omega, by rw [show F54 (me) (2 : Int) = tp from q97, show F54 (tp) (14 : Int) = F54 (tp) (14 : Int) from rfl]; omega, c65, c89, trivial⟩
      · have _q := h7
        refine jx_ld (pc_q := 120) (l_q := L) (st_q := [rv (me)]) rfl (jl_rvn gL_0) ?_
        refine jx_ld (pc_q := 122) (l_q := L) (st_q := [.int (i32 (kd)), rv (me)]) rfl (jl_iload gL_4) ?_
        refine jx_ld (pc_q := 123) (l_q := L) (st_q := [.int (i32 (sz)), .int (i32 (kd)), rv (me)]) rfl (jl_iloadn gL_1) ?_
        refine jx_ar (pc_q := 124) (st_q := [.int (i32 (1)), .int (i32 (sz)), .int (i32 (kd)), rv (me)]) rfl rfl rfl rfl ?_
        refine cx_st (st := [.int (i32 (kd)), rv (me)]) (as := [.int (i32 (sz)), .int (i32 (1))]) rfl rfl rfl ⟨rfl, (by rw [jS_i, jS_r, jS_0]; exact Nat.le_of_ble_eq_true rfl)⟩ rfl (k_java_lang_Math_max (dd := d) (R := R) (u := 0) (m := mx) (tg := tgx) (ln := lnx) (F := Fx) (a := sz) (b := 1) (hd := by omega) (hC := hCx) (h_a := by omega) (h_b := by omega)) (fun o V_q hq => ?_)
        obtain ⟨r98, rfl, rfl, b99, p100, p101, p102, -⟩ := hq
        refine Or.inr (Or.inl ⟨_, rfl, ?_⟩)
        refine jx_ld (pc_q := 129) (l_q := L) (st_q := [rv (bf), .int (i32 (r98)), .int (i32 (kd)), rv (me)]) rfl (jl_rv gL_5) ?_
        have q103 := tz_b (Fx (sc) (15 : Int))
        have q104 : Fx (sc) (7 : Int) = F (sc) (7 : Int) := (show Fx (sc) (7 : Int) = F (sc) (7 : Int) from hMx _ _ o_sc (own_z o_sc) (by rw [t_sc]; rfl))
        have q105 := lz_b (Fx (sc) (14 : Int))
        have q106 : Fx (pg) (9 : Int) = F (pg) (9 : Int) := (show Fx (pg) (9 : Int) = F (pg) (9 : Int) from hMx _ _ o_pg (own_z o_pg) (by rw [t_pg]; rfl))
        have q107 : Fx (me) (2 : Int) = tp := gv_tp
        refine cx_vi (c := 8) (a := me) (st := []) (as := [.int (i32 (kd)), .int (i32 (r98)), rv (bf)]) rfl rfl rfl ho2.1 ho2.2 (by decide) rfl ⟨rfl, rfl, (Nat.le_of_ble_eq_true rfl)⟩ rfl (k_LParser_fresh (dd := d) (R := R) (m := mx) (tg := tgx) (ln := lnx) (F := Fx) (me := me) (kd := kd) (sz := r98) (si := bf) (hd := by omega) (hC := hCx) (o_me := ho2.1) (t_me := ho2.2) (h_kd := by omega) (h_sz := by omega) (y_si := yx_bf) (sc := sc) (pg := pg) (o_sc := ho3.1) (t_sc := ho3.2) (e_sc := ((show Fx (me) (1 : Int) = F (me) (1 : Int) from hMx _ _ o_me (own_z o_me) (by rw [t_me]; rfl)).trans e_sc)) (o_pg := ho4.1) (t_pg := ho4.2) (e_pg := ((show Fx (me) (0 : Int) = F (me) (0 : Int) from hMx _ _ o_me (own_z o_me) (by rw [t_me]; rfl)).trans e_pg)) (p_0 := by omega) (p_1 := by omega) (p_2 := by omega) (c_NP := cx_NP)) (fun o V_q hq => ?_)
        obtain ⟨m108, tg108, ln108, F109, r110, rfl, rfl, hx111, hC112, hM113, b114, p115, p116, p117, p118, p119, p120, p121, p122, p123, p124, p125, p126, p127, p128, c129, c130, -⟩ | ⟨m131, tg131, ln131, F131, x131, rfl, rfl, hx131, hC131, hM131, ho131, ht131, p132, p133, p134, p135, c136, c137, -⟩ := hq
        rotate_left
        ·
          have c138 : NM m m131 tg131 := NM_t cx_NM hx131 c137
          have lm139 := hx131.1
          refine Or.inr (Or.inr (Or.inr ⟨_, _, rfl, cx_exc (c := 15) ho131 ht131 (by decide), rfl, ?_⟩))
          have q140 : Fx (sc) (7 : Int) = F (sc) (7 : Int) := (show Fx (sc) (7 : Int) = F (sc) (7 : Int) from hMx _ _ o_sc (own_z o_sc) (by rw [t_sc]; rfl))
          exact Or.inr ⟨m131, tg131, ln131, F131, x131, rfl, rfl, Ex_t hXx hx131, hC131, Fq_t (ln := ln) (ln1 := lnx) hMx hXx hM131 (by decide) (Or.inl rfl), (And.intro ho131 ht131).1, (And.intro ho131 ht131).2, by omega, by omega, by omega, by omega, c136, c138, trivial⟩
        have hM141 : Fq 0 [(7, 15), (9, 2), (9, 3), (10, 0), (10, 1), (10, 2), (10, 8), (11, 8), (11, 12), (11, 13), (11, 14), (11, 15), (11, 16), (11, 17), (11, 18)] m tg F F109 := Fq_t (ln := ln) (ln1 := lnx) hMx hXx hM113 (by decide) (Or.inl rfl)
        have lm142 := hx111.1
        have lt143 : bf < 64 + (mx : Int) := by rcases yx_bf with w | w; (· omega); exact w.1.2.1
        have lt144 : fi < 64 + (mx : Int) := by rcases yx_fi with w | w; (· omega); exact w.1.2.1
        have lt145 : tp < 64 + (mx : Int) := by rcases yx_tp with w | w; (· omega); exact w.1.2.1
        have ho146 : own m108 (me) ∧ tg108 (me) = 9 := Ex_o hx111 ⟨ho2.1, ho2.2⟩
        have y147 : bf = 0 ∨ (own m108 (bf) ∧ tg108 (bf) = 7) := Ex_z hx111 yx_bf
        have y148 : fi = 0 ∨ (own m108 (fi) ∧ tg108 (fi) = 7) := Ex_z hx111 yx_fi
        have ho149 : own m108 (sc) ∧ tg108 (sc) = 11 := Ex_o hx111 ⟨ho3.1, ho3.2⟩
        have ho150 : own m108 (pg) ∧ tg108 (pg) = 10 := Ex_o hx111 ⟨ho4.1, ho4.2⟩
        have y151 : tp = 0 ∨ (own m108 (tp) ∧ tg108 (tp) = 7) := Ex_z hx111 yx_tp
        have hX152 := Ex_t hXx hx111
        have c153 : NM m m108 tg108 := NM_t cx_NM hx111 c130
        refine Or.inr (Or.inl ⟨_, rfl, ?_⟩)
        refine jx_ld (pc_q := 134) (l_q := jSto1 L 8 (rv (r110))) (st_q := []) rfl (js_rv (by decide)) ?_
        obtain ⟨L154, eL154⟩ : ∃ q : jL, q = jSto1 L 8 (rv (r110)) := ⟨_, rfl⟩
        rw [← eL154]
        have g155 : jGet L154 0 = some (rv (me)) := eL154 ▸ jg_nr (by decide) gL_0
        have g156 : jGet L154 1 = some (.int (i32 (sz))) := eL154 ▸ jg_ne (by decide) gL_1 rfl
        have g157 : jGet L154 4 = some (.int (i32 (kd))) := eL154 ▸ jg_ne (by decide) gL_4 rfl
        have g158 : jGet L154 7 = some (.int (i32 (k))) := eL154 ▸ jg_ne (by decide) gL_7 rfl
        have g159 : jGet L154 5 = some (rv (bf)) := eL154 ▸ jg_nr (by decide) gL_5
        have g160 : jGet L154 6 = some (rv (fi)) := eL154 ▸ jg_nr (by decide) gL_6
        have g161 : jGet L154 8 = some (rv (r110)) := eL154 ▸ jg_eq
        clear eL154
        refine jx_ld (pc_q := 136) (l_q := L154) (st_q := [rv (fi)]) rfl (jl_rv g160) ?_
        refine cx_non (pc_q := 139) (tg_q := 146) rfl rfl rfl (fun h162 => ?_) (fun h162 => ?_)
        · have _q := h162
          have ho163 : own m108 (fi) ∧ tg108 (fi) = 7 := y148.resolve_left h162
          refine jx_ld (pc_q := 147) (l_q := L154) (st_q := [rv (me)]) rfl (jl_rvn g155) ?_
          refine cx_gr (pc_q := 150) (c := 8) (q := 2) (v := tp) rfl rfl (by decide) (by decide) rfl rfl ho146.1 ho146.2 ((show F109 (me) (2 : Int) = Fx (me) (2 : Int) from hM113 _ _ ho2.1 (own_z ho2.1) (by rw [ho2.2]; rfl)).trans gv_tp) ?_
          refine jx_ld (pc_q := 152) (l_q := L154) (st_q := [rv (r110), rv (tp)]) rfl (jl_rv g161) ?_
          have hn164 : tp ≠ 0 := by omega
          have ho165 : own m108 (tp) ∧ tg108 (tp) = 7 := y151.resolve_left hn164
          refine cx_po (pc_q := 155) (c := 6) (q := 14) (qi := (14 : Int)) (z := r110) rfl rfl (by decide) (by decide) rfl rfl rfl (by decide) rfl ho165.1 ho165.2 rfl ?_
          obtain ⟨F166, eF166⟩ : ∃ q, q = uF F109 (tp) (14 : Int) (r110) := ⟨_, rfl⟩
          rw [← eF166]
          have hC167 : HC 0 m108 tg108 ln108 F166 := by rw [eF166]; exact HC_fr (c := 6) (q := 14) (by decide) hC112 ho165.2 (by decide) rfl (Or.inr ⟨b114.1, b114.2⟩) ⟨fun w => absurd w (by decide), fun w => absurd w (by decide)⟩
          have hM168 : Fq 0 [(7, 15), (9, 2), (9, 3), (10, 0), (10, 1), (10, 2), (10, 8), (11, 8), (11, 12), (11, 13), (11, 14), (11, 15), (11, 16), (11, 17), (11, 18)] m tg F F166 := by rw [eF166]; exact Fq_x hM141 (Or.inr (by omega))
          have c169 : NP m108 tg108 F166 := by rw [eF166]; exact NP_nm hC112 c129 ho165.2 (Or.inl ⟨rfl, (by omega), by omega⟩)
          refine jx_ld (pc_q := 156) (l_q := L154) (st_q := [rv (me)]) rfl (jl_rvn g155) ?_
          refine jx_ld (pc_q := 158) (l_q := L154) (st_q := [rv (r110), rv (me)]) rfl (jl_rv g161) ?_
          have q170 : F166 (me) (2 : Int) = tp := (((show F166 (me) (2 : Int) = F109 (me) (2 : Int) from by rw [eF166]; exact uF_j (by decide)).trans (show F109 (me) (2 : Int) = Fx (me) (2 : Int) from hM113 _ _ ho2.1 (own_z ho2.1) (by rw [ho2.2]; rfl))).trans gv_tp)
          refine cx_vi (c := 8) (a := me) (st := []) (as := [rv (r110)]) rfl rfl rfl ho146.1 ho146.2 (by decide) rfl ⟨rfl, rfl, (Nat.le_of_ble_eq_true rfl)⟩ rfl (k_LParser_show (dd := d) (R := R) (m := m108) (tg := tg108) (ln := ln108) (F := F166) (me := me) (nm := r110) (hd := by omega) (hC := hC167) (o_me := ho146.1) (t_me := ho146.2) (o_nm := b114.1) (t_nm := b114.2) (sc := sc) (pg := pg) (o_sc := ho149.1) (t_sc := ho149.2) (e_sc := (((show F166 (me) (1 : Int) = F109 (me) (1 : Int) from by rw [eF166]; exact uF_j (by decide)).trans ((show F109 (me) (1 : Int) = Fx (me) (1 : Int) from hM113 _ _ ho2.1 (own_z ho2.1) (by rw [ho2.2]; rfl)).trans (show Fx (me) (1 : Int) = F (me) (1 : Int) from hMx _ _ o_me (own_z o_me) (by rw [t_me]; rfl)))).trans e_sc)) (o_pg := ho150.1) (t_pg := ho150.2) (e_pg := (((show F166 (me) (0 : Int) = F109 (me) (0 : Int) from by rw [eF166]; exact uF_j (by decide)).trans ((show F109 (me) (0 : Int) = Fx (me) (0 : Int) from hM113 _ _ ho2.1 (own_z ho2.1) (by rw [ho2.2]; rfl)).trans (show Fx (me) (0 : Int) = F (me) (0 : Int) from hMx _ _ o_me (own_z o_me) (by rw [t_me]; rfl)))).trans e_pg)) (p_0 := by omega) (c_NP := c169)) (fun o V_q hq => ?_)
          obtain ⟨F171, rfl, rfl, hC172, hM173, p174, c175, c176, -⟩ := hq
          have hM177 : Fq 0 [(7, 15), (9, 2), (9, 3), (10, 0), (10, 1), (10, 2), (10, 8), (11, 8), (11, 12), (11, 13), (11, 14), (11, 15), (11, 16), (11, 17), (11, 18)] m tg F F171 := Fq_t (ln := ln) (ln1 := ln108) hM168 hX152 hM173 (by decide) (Or.inl rfl)
          refine Or.inl ⟨rfl, ?_⟩
          refine jx_ld (pc_q := 162) (l_q := L154) (st_q := [rv (me)]) rfl (jl_rvn g155) ?_
          refine cx_gr (pc_q := 165) (c := 8) (q := 1) (v := sc) rfl rfl (by decide) (by decide) rfl rfl ho146.1 ho146.2 (((show F171 (me) (1 : Int) = F166 (me) (1 : Int) from hM173 _ _ ho146.1 (own_z ho146.1) (by rw [ho146.2]; rfl)).trans ((show F166 (me) (1 : Int) = F109 (me) (1 : Int) from by rw [eF166]; exact uF_j (by decide)).trans ((show F109 (me) (1 : Int) = Fx (me) (1 : Int) from hM113 _ _ ho2.1 (own_z ho2.1) (by rw [ho2.2]; rfl)).trans (show Fx (me) (1 : Int) = F (me) (1 : Int) from hMx _ _ o_me (own_z o_me) (by rw [t_me]; rfl))))).trans e_sc) ?_
          have q178 : F171 (sc) (8 : Int) = Fx (sc) (8 : Int) := ((show F171 (sc) (8 : Int) = F166 (sc) (8 : Int) from hM173 _ _ ho149.1 (own_z ho149.1) (by rw [ho149.2]; rfl)).trans ((show F166 (sc) (8 : Int) = F109 (sc) (8 : Int) from by rw [eF166]; exact uF_j (by decide)).trans (show F109 (sc) (8 : Int) = Fx (sc) (8 : Int) from hM113 _ _ ho3.1 (own_z ho3.1) (by rw [ho3.2]; rfl))))
          have q179 : F171 (sc) (15 : Int) = Fx (sc) (15 : Int) := ((show F171 (sc) (15 : Int) = F166 (sc) (15 : Int) from hM173 _ _ ho149.1 (own_z ho149.1) (by rw [ho149.2]; rfl)).trans ((show F166 (sc) (15 : Int) = F109 (sc) (15 : Int) from by rw [eF166]; exact uF_j (by decide)).trans (show F109 (sc) (15 : Int) = Fx (sc) (15 : Int) from hM113 _ _ ho3.1 (own_z ho3.1) (by rw [ho3.2]; rfl))))
          have q180 : tz (F171 (sc) (15 : Int)) = tz (Fx (sc) (15 : Int)) := by rw [q179]
          have q181 := tz_b (Fx (sc) (15 : Int))
          have q182 : F171 (sc) (7 : Int) = F (sc) (7 : Int) := ((show F171 (sc) (7 : Int) = F166 (sc) (7 : Int) from hM173 _ _ ho149.1 (own_z ho149.1) (by rw [ho149.2]; rfl)).trans ((show F166 (sc) (7 : Int) = F109 (sc) (7 : Int) from by rw [eF166]; exact uF_j (by decide)).trans ((show F109 (sc) (7 : Int) = Fx (sc) (7 : Int) from hM113 _ _ ho3.1 (own_z ho3.1) (by rw [ho3.2]; rfl)).trans (show Fx (sc) (7 : Int) = F (sc) (7 : Int) from hMx _ _ o_sc (own_z o_sc) (by rw [t_sc]; rfl)))))
          have q183 : F171 (sc) (14 : Int) = Fx (sc) (14 : Int) := ((show F171 (sc) (14 : Int) = F166 (sc) (14 : Int) from hM173 _ _ ho149.1 (own_z ho149.1) (by rw [ho149.2]; rfl)).trans ((show F166 (sc) (14 : Int) = F109 (sc) (14 : Int) from by rw [eF166]; exact uF_a (fun w => by have q1 := ho149.2; have q2 := ho165.2; rw [w, q2] at q1; exact absurd q1 (by decide))).trans (show F109 (sc) (14 : Int) = Fx (sc) (14 : Int) from hM113 _ _ ho3.1 (own_z ho3.1) (by rw [ho3.2]; rfl))))
          have q184 : lz (F171 (sc) (14 : Int)) = lz (Fx (sc) (14 : Int)) := by rw [q183]
          have q185 := lz_b (Fx (sc) (14 : Int))
          refine cx_vi (c := 10) (a := sc) (st := []) (as := []) rfl rfl rfl ho149.1 ho149.2 (by decide) rfl ⟨rfl, rfl, (Nat.le_of_ble_eq_true rfl)⟩ rfl (k_LScanner_next (dd := d) (R := R) (m := m108) (tg := tg108) (ln := ln108) (F := F171) (me := sc) (hd := by omega) (hC := hC172) (o_me := ho149.1) (t_me := ho149.2) (p_0 := by omega) (p_1 := by omega)) (fun o V_q hq => ?_)
          obtain ⟨F186, rfl, rfl, hC187, hM188, p189, p190, p191, -⟩ := hq
          have hM192 : Fq 0 [(7, 15), (9, 2), (9, 3), (10, 0), (10, 1), (10, 2), (10, 8), (11, 8), (11, 12), (11, 13), (11, 14), (11, 15), (11, 16), (11, 17), (11, 18)] m tg F F186 := Fq_t (ln := ln) (ln1 := ln108) hM177 hX152 hM188 (by decide) (Or.inl rfl)
          have c193 : NP m108 tg108 F186 := NP_q hC172 c175 hM188 rfl rfl
          refine Or.inl ⟨rfl, ?_⟩
          refine jx_ld (pc_q := 169) (l_q := L154) (st_q := [rv (me)]) rfl (jl_rvn g155) ?_
          refine cx_gr (pc_q := 172) (c := 8) (q := 1) (v := sc) rfl rfl (by decide) (by decide) rfl rfl ho146.1 ho146.2 (((show F186 (me) (1 : Int) = F171 (me) (1 : Int) from hM188 _ _ ho146.1 (own_z ho146.1) (by rw [ho146.2]; rfl)).trans ((show F171 (me) (1 : Int) = F166 (me) (1 : Int) from hM173 _ _ ho146.1 (own_z ho146.1) (by rw [ho146.2]; rfl)).trans ((show F166 (me) (1 : Int) = F109 (me) (1 : Int) from by rw [eF166]; exact uF_j (by decide)).trans ((show F109 (me) (1 : Int) = Fx (me) (1 : Int) from hM113 _ _ ho2.1 (own_z ho2.1) (by rw [ho2.2]; rfl)).trans (show Fx (me) (1 : Int) = F (me) (1 : Int) from hMx _ _ o_me (own_z o_me) (by rw [t_me]; rfl)))))).trans e_sc) ?_
          refine cx_gi (pc_q := 175) (c := 10) (q := 15) (v := F186 (sc) (15 : Int)) rfl rfl (by decide) (by decide) (Or.inl rfl) rfl ho149.1 ho149.2 rfl ?_
          have b194 : (-2147483648 : Int) ≤ F186 (sc) (15 : Int) ∧ F186 (sc) (15 : Int) ≤ 2147483647 := by have z := HC_i (c := 10) (q := 15) hC187 ho149.1 ho149.2 (by decide) rfl; rw [show F186 (sc) ((15 : Nat) : Int) = F186 (sc) (15 : Int) from rfl] at z; exact z
          refine jx_ar (pc_q := 177) (st_q := [.int (i32 (52)), .int (i32 (F186 (sc) (15 : Int)))]) rfl rfl rfl rfl ?_
          refine jx_icmp_eq (pc_q := 180) (tg := 183) rfl rfl rfl (by omega) (by omega) (by decide) (by decide) (fun h195 => ?_) (fun h195 => ?_)
          · have _q := h195
            have t196 : tz (F186 (sc) (15 : Int)) = 1 := tz_p (by omega)
            refine jx_ld (pc_q := 184) (l_q := L154) (st_q := [rv (me)]) rfl (jl_rvn g155) ?_
            refine cx_gr (pc_q := 187) (c := 8) (q := 1) (v := sc) rfl rfl (by decide) (by decide) rfl rfl ho146.1 ho146.2 (((show F186 (me) (1 : Int) = F171 (me) (1 : Int) from hM188 _ _ ho146.1 (own_z ho146.1) (by rw [ho146.2]; rfl)).trans ((show F171 (me) (1 : Int) = F166 (me) (1 : Int) from hM173 _ _ ho146.1 (own_z ho146.1) (by rw [ho146.2]; rfl)).trans ((show F166 (me) (1 : Int) = F109 (me) (1 : Int) from by rw [eF166]; exact uF_j (by decide)).trans ((show F109 (me) (1 : Int) = Fx (me) (1 : Int) from hM113 _ _ ho2.1 (own_z ho2.1) (by rw [ho2.2]; rfl)).trans (show Fx (me) (1 : Int) = F (me) (1 : Int) from hMx _ _ o_me (own_z o_me) (by rw [t_me]; rfl)))))).trans e_sc) ?_
            have q197 := tz_b (F186 (sc) (15 : Int))
            have q198 : F186 (sc) (7 : Int) = F (sc) (7 : Int) := ((show F186 (sc) (7 : Int) = F171 (sc) (7 : Int) from hM188 _ _ ho149.1 (own_z ho149.1) (by rw [ho149.2]; rfl)).trans q182)
            have q199 := lz_b (F186 (sc) (14 : Int))
            refine cx_vi (c := 10) (a := sc) (st := []) (as := []) rfl rfl rfl ho149.1 ho149.2 (by decide) rfl ⟨rfl, rfl, (Nat.le_of_ble_eq_true rfl)⟩ rfl (k_LScanner_next (dd := d) (R := R) (m := m108) (tg := tg108) (ln := ln108) (F := F186) (me := sc) (hd := by omega) (hC := hC187) (o_me := ho149.1) (t_me := ho149.2) (p_0 := by omega) (p_1 := by omega)) (fun o V_q hq => ?_)
            obtain ⟨F200, rfl, rfl, hC201, hM202, p203, p204, p205, -⟩ := hq
            have hM206 : Fq 0 [(7, 15), (9, 2), (9, 3), (10, 0), (10, 1), (10, 2), (10, 8), (11, 8), (11, 12), (11, 13), (11, 14), (11, 15), (11, 16), (11, 17), (11, 18)] m tg F F200 := Fq_t (ln := ln) (ln1 := ln108) hM192 hX152 hM202 (by decide) (Or.inl rfl)
            have c207 : NP m108 tg108 F200 := NP_q hC187 c193 hM202 rfl rfl
            refine Or.inl ⟨rfl, ?_⟩
            refine jx_inc (pc_q := 193) (l_q := jSto1 L154 7 (.int (i32 (k + (1))))) (x := k) rfl g158 (by decide) rfl rfl ?_
            obtain ⟨L208, eL208⟩ : ∃ q : jL, q = jSto1 L154 7 (.int (i32 ((k + (1))))) := ⟨_, rfl⟩
            rw [← eL208]
            have g209 : jGet L208 0 = some (rv (me)) := eL208 ▸ jg_nr (by decide) g155
            have g210 : jGet L208 1 = some (.int (i32 (sz))) := eL208 ▸ jg_ne (by decide) g156 rfl
            have g211 : jGet L208 4 = some (.int (i32 (kd))) := eL208 ▸ jg_ne (by decide) g157 rfl
            have g212 : jGet L208 5 = some (rv (bf)) := eL208 ▸ jg_nr (by decide) g159
            have g213 : jGet L208 6 = some (rv (fi)) := eL208 ▸ jg_nr (by decide) g160
            have g214 : jGet L208 8 = some (rv (r110)) := eL208 ▸ jg_nr (by decide) g161
            have g215 : jGet L208 7 = some (.int (i32 ((k + (1))))) := eL208 ▸ jg_eq
            clear eL208
            refine jx_go (tg := 111) rfl rfl ?_
            have q216 := tz_b (F200 (sc) (15 : Int))
            have q217 := lz_b (F200 (sc) (14 : Int))
            have q218 : F200 (pg) (9 : Int) = F (pg) (9 : Int) := ((show F200 (pg) (9 : Int) = F186 (pg) (9 : Int) from hM202 _ _ ho150.1 (own_z ho150.1) (by rw [ho150.2]; rfl)).trans ((show F186 (pg) (9 : Int) = F171 (pg) (9 : Int) from hM188 _ _ ho150.1 (own_z ho150.1) (by rw [ho150.2]; rfl)).trans ((show F171 (pg) (9 : Int) = F166 (pg) (9 : Int) from hM173 _ _ ho150.1 (own_z ho150.1) (by rw [ho150.2]; rfl)).trans ((show F166 (pg) (9 : Int) = F109 (pg) (9 : Int) from by rw [eF166]; exact uF_j (by decide)).trans ((show F109 (pg) (9 : Int) = Fx (pg) (9 : Int) from hM113 _ _ ho4.1 (own_z ho4.1) (by rw [ho4.2]; rfl)).trans (show Fx (pg) (9 : Int) = F (pg) (9 : Int) from hMx _ _ o_pg (own_z o_pg) (by rw [t_pg]; rfl)))))))
            have q219 : F200 (r110) (14 : Int) = F109 (r110) (14 : Int) := ((show F200 (r110) (14 : Int) = F186 (r110) (14 : Int) from hM202 _ _ b114.1 (own_z b114.1) (by rw [b114.2]; rfl)).trans ((show F186 (r110) (14 : Int) = F171 (r110) (14 : Int) from hM188 _ _ b114.1 (own_z b114.1) (by rw [b114.2]; rfl)).trans ((show F171 (r110) (14 : Int) = F166 (r110) (14 : Int) from hM173 _ _ b114.1 (own_z b114.1) (by rw [b114.2]; rfl)).trans (show F166 (r110) (14 : Int) = F109 (r110) (14 : Int) from by rw [eF166]; exact uF_a (by omega)))))
            exact ih _ (by omega) L208 m108 tg108 ln108 F200 (sz) (kd) ((k + (1))) (bf) (fi) (r110) rfl g209 g210 g211 g215 g212 g213 hX152 hC201 hM206 (by omega) (by omega) (by omega) y147 (Or.inr ⟨ho163.1, ho163.2⟩) (by omega) (by omega) (by omega) (by omega) (by omega) (by omega) (by omega) (by omega) (by omega) (by omega) (by omega) c207 c153 (((show F200 (me) (2 : Int) = F186 (me) (2 : Int) from hM202 _ _ ho146.1 (own_z ho146.1) (by rw [ho146.2]; rfl)).trans (show F186 (me) (2 : Int) = F171 (me) (2 : Int) from hM188 _ _ ho146.1 (own_z ho146.1) (by rw [ho146.2]; rfl))).trans p174) (Or.inr ⟨b114.1, b114.2⟩)
          · have _q := h195
            refine jx_go (tg := 196) rfl rfl ?_
            refine jx_ld (pc_q := 197) (l_q := L154) (st_q := [rv (me)]) rfl (jl_rvn g155) ?_
            refine jx_ar (pc_q := 199) (st_q := [.int (i32 (53)), rv (me)]) rfl rfl rfl rfl ?_
            have q220 := tz_b (F186 (sc) (15 : Int))
            have q221 : F186 (sc) (7 : Int) = F (sc) (7 : Int) := ((show F186 (sc) (7 : Int) = F171 (sc) (7 : Int) from hM188 _ _ ho149.1 (own_z ho149.1) (by rw [ho149.2]; rfl)).trans q182)
            have q222 := lz_b (F186 (sc) (14 : Int))
            have q223 : F186 (pg) (9 : Int) = F (pg) (9 : Int) := ((show F186 (pg) (9 : Int) = F171 (pg) (9 : Int) from hM188 _ _ ho150.1 (own_z ho150.1) (by rw [ho150.2]; rfl)).trans ((show F171 (pg) (9 : Int) = F166 (pg) (9 : Int) from hM173 _ _ ho150.1 (own_z ho150.1) (by rw [ho150.2]; rfl)).trans ((show F166 (pg) (9 : Int) = F109 (pg) (9 : Int) from by rw [eF166]; exact uF_j (by decide)).trans ((show F109 (pg) (9 : Int) = Fx (pg) (9 : Int) from hM113 _ _ ho4.1 (own_z ho4.1) (by rw [ho4.2]; rfl)).trans (show Fx (pg) (9 : Int) = F (pg) (9 : Int) from hMx _ _ o_pg (own_z o_pg) (by rw [t_pg]; rfl))))))
            refine cx_vi (c := 8) (a := me) (st := []) (as := [.int (i32 (53))]) rfl rfl rfl ho146.1 ho146.2 (by decide) rfl ⟨rfl, rfl, (Nat.le_of_ble_eq_true rfl)⟩ rfl (k_LParser_expect (dd := d) (R := R) (m := m108) (tg := tg108) (ln := ln108) (F := F186) (me := me) (tk := 53) (hd := by omega) (hC := hC187) (o_me := ho146.1) (t_me := ho146.2) (h_tk := by omega) (sc := sc) (pg := pg) (o_sc := ho149.1) (t_sc := ho149.2) (e_sc := (((show F186 (me) (1 : Int) = F171 (me) (1 : Int) from hM188 _ _ ho146.1 (own_z ho146.1) (by rw [ho146.2]; rfl)).trans ((show F171 (me) (1 : Int) = F166 (me) (1 : Int) from hM173 _ _ ho146.1 (own_z ho146.1) (by rw [ho146.2]; rfl)).trans ((show F166 (me) (1 : Int) = F109 (me) (1 : Int) from by rw [eF166]; exact uF_j (by decide)).trans ((show F109 (me) (1 : Int) = Fx (me) (1 : Int) from hM113 _ _ ho2.1 (own_z ho2.1) (by rw [ho2.2]; rfl)).trans (show Fx (me) (1 : Int) = F (me) (1 : Int) from hMx _ _ o_me (own_z o_me) (by rw [t_me]; rfl)))))).trans e_sc)) (o_pg := ho150.1) (t_pg := ho150.2) (e_pg := (((show F186 (me) (0 : Int) = F171 (me) (0 : Int) from hM188 _ _ ho146.1 (own_z ho146.1) (by rw [ho146.2]; rfl)).trans ((show F171 (me) (0 : Int) = F166 (me) (0 : Int) from hM173 _ _ ho146.1 (own_z ho146.1) (by rw [ho146.2]; rfl)).trans ((show F166 (me) (0 : Int) = F109 (me) (0 : Int) from by rw [eF166]; exact uF_j (by decide)).trans ((show F109 (me) (0 : Int) = Fx (me) (0 : Int) from hM113 _ _ ho2.1 (own_z ho2.1) (by rw [ho2.2]; rfl)).trans (show Fx (me) (0 : Int) = F (me) (0 : Int) from hMx _ _ o_me (own_z o_me) (by rw [t_me]; rfl)))))).trans e_pg)) (p_0 := by omega) (p_1 := by omega) (p_2 := by omega) (p_3 := by omega) (c_NP := c193)) (fun o V_q hq => ?_)
            obtain ⟨m224, tg224, ln224, F225, rfl, rfl, hx226, hC227, hM228, p229, p230, p231, p232, p233, p234, p235, c236, c237, -⟩ | ⟨m238, tg238, ln238, F238, x238, rfl, rfl, hx238, hC238, hM238, ho238, ht238, p239, p240, p241, p242, c243, c244, -⟩ := hq
            rotate_left
            ·
              have c245 : NM m m238 tg238 := NM_t c153 hx238 c244
              have lm246 := hx238.1
              refine Or.inr (Or.inr (Or.inr ⟨_, _, rfl, cx_exc (c := 15) ho238 ht238 (by decide), rfl, ?_⟩))
              have q247 : F186 (sc) (7 : Int) = F (sc) (7 : Int) := q221
              exact Or.inr ⟨m238, tg238, ln238, F238, x238, rfl, rfl, Ex_t hX152 hx238, hC238, Fq_t (ln := ln) (ln1 := ln108) hM192 hX152 hM238 (by decide) (Or.inl rfl), (And.intro ho238 ht238).1, (And.intro ho238 ht238).2, by omega, by omega, by omega, by omega, c243, c245, trivial⟩
            have hM248 : Fq 0 [(7, 15), (9, 2), (9, 3), (10, 0), (10, 1), (10, 2), (10, 8), (11, 8), (11, 12), (11, 13), (11, 14), (11, 15), (11, 16), (11, 17), (11, 18)] m tg F F225 := Fq_t (ln := ln) (ln1 := ln108) hM192 hX152 hM228 (by decide) (Or.inl rfl)
            have lm249 := hx226.1
            have lt250 : bf < 64 + (m108 : Int) := by rcases y147 with w | w; (· omega); exact w.1.2.1
            have lt251 : fi < 64 + (m108 : Int) := ho163.1.2.1
            have lt252 : r110 < 64 + (m108 : Int) := b114.1.2.1
            have lt253 : tp < 64 + (m108 : Int) := ho165.1.2.1
            have ho254 : own m224 (me) ∧ tg224 (me) = 9 := Ex_o hx226 ⟨ho146.1, ho146.2⟩
            have y255 : bf = 0 ∨ (own m224 (bf) ∧ tg224 (bf) = 7) := Ex_z hx226 y147
            have ho256 : own m224 (fi) ∧ tg224 (fi) = 7 := Ex_o hx226 ⟨ho163.1, ho163.2⟩
            have ho257 : own m224 (r110) ∧ tg224 (r110) = 7 := Ex_o hx226 ⟨b114.1, b114.2⟩
            have ho258 : own m224 (sc) ∧ tg224 (sc) = 11 := Ex_o hx226 ⟨ho149.1, ho149.2⟩
            have ho259 : own m224 (pg) ∧ tg224 (pg) = 10 := Ex_o hx226 ⟨ho150.1, ho150.2⟩
            have ho260 : own m224 (tp) ∧ tg224 (tp) = 7 := Ex_o hx226 ⟨ho165.1, ho165.2⟩
            have hX261 := Ex_t hX152 hx226
            have c262 : NM m m224 tg224 := NM_t c153 hx226 c237
            refine Or.inl ⟨rfl, ?_⟩
            refine jx_ld (pc_q := 203) (l_q := L154) (st_q := [rv (me)]) rfl (jl_rvn g155) ?_
            have q263 := tz_b (F225 (sc) (15 : Int))
            have q264 : F225 (sc) (7 : Int) = F (sc) (7 : Int) := ((show F225 (sc) (7 : Int) = F186 (sc) (7 : Int) from hM228 _ _ ho149.1 (own_z ho149.1) (by rw [ho149.2]; rfl)).trans q221)
            have q265 := lz_b (F225 (sc) (14 : Int))
            have q266 : F225 (pg) (9 : Int) = F (pg) (9 : Int) := ((show F225 (pg) (9 : Int) = F186 (pg) (9 : Int) from hM228 _ _ ho150.1 (own_z ho150.1) (by rw [ho150.2]; rfl)).trans q223)
            refine cx_vi (c := 8) (a := me) (st := []) (as := []) rfl rfl rfl ho254.1 ho254.2 (by decide) rfl ⟨rfl, rfl, (Nat.le_of_ble_eq_true rfl)⟩ rfl (k_LParser_endLine (dd := d) (R := R) (m := m224) (tg := tg224) (ln := ln224) (F := F225) (me := me) (hd := by omega) (hC := hC227) (o_me := ho254.1) (t_me := ho254.2) (sc := sc) (pg := pg) (o_sc := ho258.1) (t_sc := ho258.2) (e_sc := (((show F225 (me) (1 : Int) = F186 (me) (1 : Int) from hM228 _ _ ho146.1 (own_z ho146.1) (by rw [ho146.2]; rfl)).trans ((show F186 (me) (1 : Int) = F171 (me) (1 : Int) from hM188 _ _ ho146.1 (own_z ho146.1) (by rw [ho146.2]; rfl)).trans ((show F171 (me) (1 : Int) = F166 (me) (1 : Int) from hM173 _ _ ho146.1 (own_z ho146.1) (by rw [ho146.2]; rfl)).trans ((show F166 (me) (1 : Int) = F109 (me) (1 : Int) from by rw [eF166]; exact uF_j (by decide)).trans ((show F109 (me) (1 : Int) = Fx (me) (1 : Int) from hM113 _ _ ho2.1 (own_z ho2.1) (by rw [ho2.2]; rfl)).trans (show Fx (me) (1 : Int) = F (me) (1 : Int) from hMx _ _ o_me (own_z o_me) (by rw [t_me]; rfl))))))).trans e_sc)) (o_pg := ho259.1) (t_pg := ho259.2) (e_pg := (((show F225 (me) (0 : Int) = F186 (me) (0 : Int) from hM228 _ _ ho146.1 (own_z ho146.1) (by rw [ho146.2]; rfl)).trans ((show F186 (me) (0 : Int) = F171 (me) (0 : Int) from hM188 _ _ ho146.1 (own_z ho146.1) (by rw [ho146.2]; rfl)).trans ((show F171 (me) (0 : Int) = F166 (me) (0 : Int) from hM173 _ _ ho146.1 (own_z ho146.1) (by rw [ho146.2]; rfl)).trans ((show F166 (me) (0 : Int) = F109 (me) (0 : Int) from by rw [eF166]; exact uF_j (by decide)).trans ((show F109 (me) (0 : Int) = Fx (me) (0 : Int) from hM113 _ _ ho2.1 (own_z ho2.1) (by rw [ho2.2]; rfl)).trans (show Fx (me) (0 : Int) = F (me) (0 : Int) from hMx _ _ o_me (own_z o_me) (by rw [t_me]; rfl))))))).trans e_pg)) (p_0 := by omega) (p_1 := by omega) (p_2 := by omega) (c_NP := c236)) (fun o V_q hq => ?_)
            obtain ⟨m267, tg267, ln267, F268, rfl, rfl, hx269, hC270, hM271, p272, p273, p274, p275, p276, p277, p278, c279, c280, -⟩ | ⟨m281, tg281, ln281, F281, x281, rfl, rfl, hx281, hC281, hM281, ho281, ht281, p282, p283, p284, p285, c286, c287, -⟩ := hq
            rotate_left
            ·
              have c288 : NM m m281 tg281 := NM_t c262 hx281 c287
              have lm289 := hx281.1
              refine Or.inr (Or.inr (Or.inr ⟨_, _, rfl, cx_exc (c := 15) ho281 ht281 (by decide), rfl, ?_⟩))
              have q290 : F225 (sc) (7 : Int) = F (sc) (7 : Int) := q264
              exact Or.inr ⟨m281, tg281, ln281, F281, x281, rfl, rfl, Ex_t hX261 hx281, hC281, Fq_t (ln := ln) (ln1 := ln224) hM248 hX261 hM281 (by decide) (Or.inl rfl), (And.intro ho281 ht281).1, (And.intro ho281 ht281).2, by omega, by omega, by omega, by omega, c286, c288, trivial⟩
            have hM291 : Fq 0 [(7, 15), (9, 2), (9, 3), (10, 0), (10, 1), (10, 2), (10, 8), (11, 8), (11, 12), (11, 13), (11, 14), (11, 15), (11, 16), (11, 17), (11, 18)] m tg F F268 := Fq_t (ln := ln) (ln1 := ln224) hM248 hX261 hM271 (by decide) (Or.inl rfl)
            have lm292 := hx269.1
            have lt293 : bf < 64 + (m224 : Int) := by rcases y255 with w | w; (· omega); exact w.1.2.1
            have lt294 : fi < 64 + (m224 : Int) := ho256.1.2.1
            have lt295 : r110 < 64 + (m224 : Int) := ho257.1.2.1
            have lt296 : tp < 64 + (m224 : Int) := ho260.1.2.1
            have ho297 : own m267 (me) ∧ tg267 (me) = 9 := Ex_o hx269 ⟨ho254.1, ho254.2⟩
            have y298 : bf = 0 ∨ (own m267 (bf) ∧ tg267 (bf) = 7) := Ex_z hx269 y255
            have ho299 : own m267 (fi) ∧ tg267 (fi) = 7 := Ex_o hx269 ⟨ho256.1, ho256.2⟩
            have ho300 : own m267 (r110) ∧ tg267 (r110) = 7 := Ex_o hx269 ⟨ho257.1, ho257.2⟩
            have ho301 : own m267 (sc) ∧ tg267 (sc) = 11 := Ex_o hx269 ⟨ho258.1, ho258.2⟩
            have ho302 : own m267 (pg) ∧ tg267 (pg) = 10 := Ex_o hx269 ⟨ho259.1, ho259.2⟩
            have ho303 : own m267 (tp) ∧ tg267 (tp) = 7 := Ex_o hx269 ⟨ho260.1, ho260.2⟩
            have hX304 := Ex_t hX261 hx269
            have c305 : NM m m267 tg267 := NM_t c262 hx269 c280
            refine Or.inl ⟨rfl, ?_⟩
            refine jx_ld (pc_q := 208) (l_q := L154) (st_q := [rv (fi)]) rfl (jl_rv g160) ?_
            refine jx_rt (v := some (rv (fi))) rfl rfl rfl rfl rfl jr_are ?_
            have q306 : F268 (sc) (7 : Int) = F (sc) (7 : Int) := ((show F268 (sc) (7 : Int) = F225 (sc) (7 : Int) from hM271 _ _ ho258.1 (own_z ho258.1) (by rw [ho258.2]; rfl)).trans q264)
            have q307 : F268 (pg) (9 : Int) = F (pg) (9 : Int) := ((show F268 (pg) (9 : Int) = F225 (pg) (9 : Int) from hM271 _ _ ho259.1 (own_z ho259.1) (by rw [ho259.2]; rfl)).trans q266)
            have q308 := tz_b (F268 (sc) (15 : Int))
            have q309 := lz_b (F268 (sc) (14 : Int))
            have q310 : F268 (pg) (9 : Int) = F (pg) (9 : Int) := q307
            have q311 : F268 (me) (2 : Int) = r110 := (((show F268 (me) (2 : Int) = F225 (me) (2 : Int) from hM271 _ _ ho254.1 (own_z ho254.1) (by rw [ho254.2]; rfl)).trans ((show F225 (me) (2 : Int) = F186 (me) (2 : Int) from hM228 _ _ ho146.1 (own_z ho146.1) (by rw [ho146.2]; rfl)).trans (show F186 (me) (2 : Int) = F171 (me) (2 : Int) from hM188 _ _ ho146.1 (own_z ho146.1) (by rw [ho146.2]; rfl)))).trans p174)
            exact Or.inl ⟨m267, tg267, ln267, F268, (fi), rfl, rfl, hX304, hC270, hM291, ⟨ho299.1, ho299.2⟩, by omega, by omega, by omega, by omega, by omega, by omega, by omega, by omega, by rw [show F268 (me) (2 : Int) = r110 from q311, show F268 (r110) (14 : Int) = F109 (r110) (14 : Int) from ((show F268 (r110) (14 : Int) = F225 (r110) (14 : Int) from hM271 _ _ ho257.1 (own_z ho257.1) (by rw [ho257.2]; rfl)).trans ((show F225 (r110) (14 : Int) = F186 (r110) (14 : Int) from hM228 _ _ b114.1 (own_z b114.1) (by rw [b114.2]; rfl)).trans ((show F186 (r110) (14 : Int) = F171 (r110) (14 : Int) from hM188 _ _ b114.1 (own_z b114.1) (by rw [b114.2]; rfl)).trans ((show F171 (r110) (14 : Int) = F166 (r110) (14 : Int) from hM173 _ _ b114.1 (own_z b114.1) (by rw [b114.2]; rfl)).trans (show F166 (r110) (14 : Int) = F109 (r110) (14 : Int) from by rw [eF166]; exact uF_a (by omega))))))]; omega, c279, c305, trivial⟩
        · have _q := h162
          refine jx_ld (pc_q := 141) (l_q := L154) (st_q := [rv (r110)]) rfl (jl_rv g161) ?_
          refine jx_ld (pc_q := 143) (l_q := jSto1 L154 6 (rv (r110))) (st_q := []) rfl (js_rv (by decide)) ?_
          obtain ⟨L312, eL312⟩ : ∃ q : jL, q = jSto1 L154 6 (rv (r110)) := ⟨_, rfl⟩
          rw [← eL312]
          have g313 : jGet L312 0 = some (rv (me)) := eL312 ▸ jg_nr (by decide) g155
          have g314 : jGet L312 1 = some (.int (i32 (sz))) := eL312 ▸ jg_ne (by decide) g156 rfl
          have g315 : jGet L312 4 = some (.int (i32 (kd))) := eL312 ▸ jg_ne (by decide) g157 rfl
          have g316 : jGet L312 7 = some (.int (i32 (k))) := eL312 ▸ jg_ne (by decide) g158 rfl
          have g317 : jGet L312 5 = some (rv (bf)) := eL312 ▸ jg_nr (by decide) g159
          have g318 : jGet L312 8 = some (rv (r110)) := eL312 ▸ jg_nr (by decide) g161
          have g319 : jGet L312 6 = some (rv (r110)) := eL312 ▸ jg_eq
          clear eL312
          refine jx_go (tg := 155) rfl rfl ?_
          refine jx_ld (pc_q := 156) (l_q := L312) (st_q := [rv (me)]) rfl (jl_rvn g313) ?_
          refine jx_ld (pc_q := 158) (l_q := L312) (st_q := [rv (r110), rv (me)]) rfl (jl_rv g318) ?_
          have q320 : F109 (me) (2 : Int) = tp := ((show F109 (me) (2 : Int) = Fx (me) (2 : Int) from hM113 _ _ ho2.1 (own_z ho2.1) (by rw [ho2.2]; rfl)).trans gv_tp)
          refine cx_vi (c := 8) (a := me) (st := []) (as := [rv (r110)]) rfl rfl rfl ho146.1 ho146.2 (by decide) rfl ⟨rfl, rfl, (Nat.le_of_ble_eq_true rfl)⟩ rfl (k_LParser_show (dd := d) (R := R) (m := m108) (tg := tg108) (ln := ln108) (F := F109) (me := me) (nm := r110) (hd := by omega) (hC := hC112) (o_me := ho146.1) (t_me := ho146.2) (o_nm := b114.1) (t_nm := b114.2) (sc := sc) (pg := pg) (o_sc := ho149.1) (t_sc := ho149.2) (e_sc := (((show F109 (me) (1 : Int) = Fx (me) (1 : Int) from hM113 _ _ ho2.1 (own_z ho2.1) (by rw [ho2.2]; rfl)).trans (show Fx (me) (1 : Int) = F (me) (1 : Int) from hMx _ _ o_me (own_z o_me) (by rw [t_me]; rfl))).trans e_sc)) (o_pg := ho150.1) (t_pg := ho150.2) (e_pg := (((show F109 (me) (0 : Int) = Fx (me) (0 : Int) from hM113 _ _ ho2.1 (own_z ho2.1) (by rw [ho2.2]; rfl)).trans (show Fx (me) (0 : Int) = F (me) (0 : Int) from hMx _ _ o_me (own_z o_me) (by rw [t_me]; rfl))).trans e_pg)) (p_0 := by omega) (c_NP := c129)) (fun o V_q hq => ?_)
          obtain ⟨F321, rfl, rfl, hC322, hM323, p324, c325, c326, -⟩ := hq
          have hM327 : Fq 0 [(7, 15), (9, 2), (9, 3), (10, 0), (10, 1), (10, 2), (10, 8), (11, 8), (11, 12), (11, 13), (11, 14), (11, 15), (11, 16), (11, 17), (11, 18)] m tg F F321 := Fq_t (ln := ln) (ln1 := ln108) hM141 hX152 hM323 (by decide) (Or.inl rfl)
          refine Or.inl ⟨rfl, ?_⟩
          refine jx_ld (pc_q := 162) (l_q := L312) (st_q := [rv (me)]) rfl (jl_rvn g313) ?_
          refine cx_gr (pc_q := 165) (c := 8) (q := 1) (v := sc) rfl rfl (by decide) (by decide) rfl rfl ho146.1 ho146.2 (((show F321 (me) (1 : Int) = F109 (me) (1 : Int) from hM323 _ _ ho146.1 (own_z ho146.1) (by rw [ho146.2]; rfl)).trans ((show F109 (me) (1 : Int) = Fx (me) (1 : Int) from hM113 _ _ ho2.1 (own_z ho2.1) (by rw [ho2.2]; rfl)).trans (show Fx (me) (1 : Int) = F (me) (1 : Int) from hMx _ _ o_me (own_z o_me) (by rw [t_me]; rfl)))).trans e_sc) ?_
          have q328 : F321 (sc) (8 : Int) = Fx (sc) (8 : Int) := ((show F321 (sc) (8 : Int) = F109 (sc) (8 : Int) from hM323 _ _ ho149.1 (own_z ho149.1) (by rw [ho149.2]; rfl)).trans (show F109 (sc) (8 : Int) = Fx (sc) (8 : Int) from hM113 _ _ ho3.1 (own_z ho3.1) (by rw [ho3.2]; rfl)))
          have q329 : F321 (sc) (15 : Int) = Fx (sc) (15 : Int) := ((show F321 (sc) (15 : Int) = F109 (sc) (15 : Int) from hM323 _ _ ho149.1 (own_z ho149.1) (by rw [ho149.2]; rfl)).trans (show F109 (sc) (15 : Int) = Fx (sc) (15 : Int) from hM113 _ _ ho3.1 (own_z ho3.1) (by rw [ho3.2]; rfl)))
          have q330 : tz (F321 (sc) (15 : Int)) = tz (Fx (sc) (15 : Int)) := by rw [q329]
          have q331 := tz_b (Fx (sc) (15 : Int))
          have q332 : F321 (sc) (7 : Int) = F (sc) (7 : Int) := ((show F321 (sc) (7 : Int) = F109 (sc) (7 : Int) from hM323 _ _ ho149.1 (own_z ho149.1) (by rw [ho149.2]; rfl)).trans ((show F109 (sc) (7 : Int) = Fx (sc) (7 : Int) from hM113 _ _ ho3.1 (own_z ho3.1) (by rw [ho3.2]; rfl)).trans (show Fx (sc) (7 : Int) = F (sc) (7 : Int) from hMx _ _ o_sc (own_z o_sc) (by rw [t_sc]; rfl))))
          have q333 : F321 (sc) (14 : Int) = Fx (sc) (14 : Int) := ((show F321 (sc) (14 : Int) = F109 (sc) (14 : Int) from hM323 _ _ ho149.1 (own_z ho149.1) (by rw [ho149.2]; rfl)).trans (show F109 (sc) (14 : Int) = Fx (sc) (14 : Int) from hM113 _ _ ho3.1 (own_z ho3.1) (by rw [ho3.2]; rfl)))
          have q334 : lz (F321 (sc) (14 : Int)) = lz (Fx (sc) (14 : Int)) := by rw [q333]
          have q335 := lz_b (Fx (sc) (14 : Int))
          refine cx_vi (c := 10) (a := sc) (st := []) (as := []) rfl rfl rfl ho149.1 ho149.2 (by decide) rfl ⟨rfl, rfl, (Nat.le_of_ble_eq_true rfl)⟩ rfl (k_LScanner_next (dd := d) (R := R) (m := m108) (tg := tg108) (ln := ln108) (F := F321) (me := sc) (hd := by omega) (hC := hC322) (o_me := ho149.1) (t_me := ho149.2) (p_0 := by omega) (p_1 := by omega)) (fun o V_q hq => ?_)
          obtain ⟨F336, rfl, rfl, hC337, hM338, p339, p340, p341, -⟩ := hq
          have hM342 : Fq 0 [(7, 15), (9, 2), (9, 3), (10, 0), (10, 1), (10, 2), (10, 8), (11, 8), (11, 12), (11, 13), (11, 14), (11, 15), (11, 16), (11, 17), (11, 18)] m tg F F336 := Fq_t (ln := ln) (ln1 := ln108) hM327 hX152 hM338 (by decide) (Or.inl rfl)
          have c343 : NP m108 tg108 F336 := NP_q hC322 c325 hM338 rfl rfl
          refine Or.inl ⟨rfl, ?_⟩
          refine jx_ld (pc_q := 169) (l_q := L312) (st_q := [rv (me)]) rfl (jl_rvn g313) ?_
          refine cx_gr (pc_q := 172) (c := 8) (q := 1) (v := sc) rfl rfl (by decide) (by decide) rfl rfl ho146.1 ho146.2 (((show F336 (me) (1 : Int) = F321 (me) (1 : Int) from hM338 _ _ ho146.1 (own_z ho146.1) (by rw [ho146.2]; rfl)).trans ((show F321 (me) (1 : Int) = F109 (me) (1 : Int) from hM323 _ _ ho146.1 (own_z ho146.1) (by rw [ho146.2]; rfl)).trans ((show F109 (me) (1 : Int) = Fx (me) (1 : Int) from hM113 _ _ ho2.1 (own_z ho2.1) (by rw [ho2.2]; rfl)).trans (show Fx (me) (1 : Int) = F (me) (1 : Int) from hMx _ _ o_me (own_z o_me) (by rw [t_me]; rfl))))).trans e_sc) ?_
          refine cx_gi (pc_q := 175) (c := 10) (q := 15) (v := F336 (sc) (15 : Int)) rfl rfl (by decide) (by decide) (Or.inl rfl) rfl ho149.1 ho149.2 rfl ?_
          have b344 : (-2147483648 : Int) ≤ F336 (sc) (15 : Int) ∧ F336 (sc) (15 : Int) ≤ 2147483647 := by have z := HC_i (c := 10) (q := 15) hC337 ho149.1 ho149.2 (by decide) rfl; rw [show F336 (sc) ((15 : Nat) : Int) = F336 (sc) (15 : Int) from rfl] at z; exact z
          refine jx_ar (pc_q := 177) (st_q := [.int (i32 (52)), .int (i32 (F336 (sc) (15 : Int)))]) rfl rfl rfl rfl ?_
          refine jx_icmp_eq (pc_q := 180) (tg := 183) rfl rfl rfl (by omega) (by omega) (by decide) (by decide) (fun h345 => ?_) (fun h345 => ?_)
          · have _q := h345
            have t346 : tz (F336 (sc) (15 : Int)) = 1 := tz_p (by omega)
            refine jx_ld (pc_q := 184) (l_q := L312) (st_q := [rv (me)]) rfl (jl_rvn g313) ?_
            refine cx_gr (pc_q := 187) (c := 8) (q := 1) (v := sc) rfl rfl (by decide) (by decide) rfl rfl ho146.1 ho146.2 (((show F336 (me) (1 : Int) = F321 (me) (1 : Int) from hM338 _ _ ho146.1 (own_z ho146.1) (by rw [ho146.2]; rfl)).trans ((show F321 (me) (1 : Int) = F109 (me) (1 : Int) from hM323 _ _ ho146.1 (own_z ho146.1) (by rw [ho146.2]; rfl)).trans ((show F109 (me) (1 : Int) = Fx (me) (1 : Int) from hM113 _ _ ho2.1 (own_z ho2.1) (by rw [ho2.2]; rfl)).trans (show Fx (me) (1 : Int) = F (me) (1 : Int) from hMx _ _ o_me (own_z o_me) (by rw [t_me]; rfl))))).trans e_sc) ?_
            have q347 := tz_b (F336 (sc) (15 : Int))
            have q348 : F336 (sc) (7 : Int) = F (sc) (7 : Int) := ((show F336 (sc) (7 : Int) = F321 (sc) (7 : Int) from hM338 _ _ ho149.1 (own_z ho149.1) (by rw [ho149.2]; rfl)).trans q332)
            have q349 := lz_b (F336 (sc) (14 : Int))
            refine cx_vi (c := 10) (a := sc) (st := []) (as := []) rfl rfl rfl ho149.1 ho149.2 (by decide) rfl ⟨rfl, rfl, (Nat.le_of_ble_eq_true rfl)⟩ rfl (k_LScanner_next (dd := d) (R := R) (m := m108) (tg := tg108) (ln := ln108) (F := F336) (me := sc) (hd := by omega) (hC := hC337) (o_me := ho149.1) (t_me := ho149.2) (p_0 := by omega) (p_1 := by omega)) (fun o V_q hq => ?_)
            obtain ⟨F350, rfl, rfl, hC351, hM352, p353, p354, p355, -⟩ := hq
            have hM356 : Fq 0 [(7, 15), (9, 2), (9, 3), (10, 0), (10, 1), (10, 2), (10, 8), (11, 8), (11, 12), (11, 13), (11, 14), (11, 15), (11, 16), (11, 17), (11, 18)] m tg F F350 := Fq_t (ln := ln) (ln1 := ln108) hM342 hX152 hM352 (by decide) (Or.inl rfl)
            have c357 : NP m108 tg108 F350 := NP_q hC337 c343 hM352 rfl rfl
            refine Or.inl ⟨rfl, ?_⟩
            refine jx_inc (pc_q := 193) (l_q := jSto1 L312 7 (.int (i32 (k + (1))))) (x := k) rfl g316 (by decide) rfl rfl ?_
            obtain ⟨L358, eL358⟩ : ∃ q : jL, q = jSto1 L312 7 (.int (i32 ((k + (1))))) := ⟨_, rfl⟩
            rw [← eL358]
            have g359 : jGet L358 0 = some (rv (me)) := eL358 ▸ jg_nr (by decide) g313
            have g360 : jGet L358 1 = some (.int (i32 (sz))) := eL358 ▸ jg_ne (by decide) g314 rfl
            have g361 : jGet L358 4 = some (.int (i32 (kd))) := eL358 ▸ jg_ne (by decide) g315 rfl
            have g362 : jGet L358 5 = some (rv (bf)) := eL358 ▸ jg_nr (by decide) g317
            have g363 : jGet L358 8 = some (rv (r110)) := eL358 ▸ jg_nr (by decide) g318
            have g364 : jGet L358 6 = some (rv (r110)) := eL358 ▸ jg_nr (by decide) g319
            have g365 : jGet L358 7 = some (.int (i32 ((k + (1))))) := eL358 ▸ jg_eq
            clear eL358
            refine jx_go (tg := 111) rfl rfl ?_
            have q366 := tz_b (F350 (sc) (15 : Int))
            have q367 := lz_b (F350 (sc) (14 : Int))
            have q368 : F350 (pg) (9 : Int) = F (pg) (9 : Int) := ((show F350 (pg) (9 : Int) = F336 (pg) (9 : Int) from hM352 _ _ ho150.1 (own_z ho150.1) (by rw [ho150.2]; rfl)).trans ((show F336 (pg) (9 : Int) = F321 (pg) (9 : Int) from hM338 _ _ ho150.1 (own_z ho150.1) (by rw [ho150.2]; rfl)).trans ((show F321 (pg) (9 : Int) = F109 (pg) (9 : Int) from hM323 _ _ ho150.1 (own_z ho150.1) (by rw [ho150.2]; rfl)).trans ((show F109 (pg) (9 : Int) = Fx (pg) (9 : Int) from hM113 _ _ ho4.1 (own_z ho4.1) (by rw [ho4.2]; rfl)).trans (show Fx (pg) (9 : Int) = F (pg) (9 : Int) from hMx _ _ o_pg (own_z o_pg) (by rw [t_pg]; rfl))))))
            have q369 : F350 (r110) (14 : Int) = F109 (r110) (14 : Int) := ((show F350 (r110) (14 : Int) = F336 (r110) (14 : Int) from hM352 _ _ b114.1 (own_z b114.1) (by rw [b114.2]; rfl)).trans ((show F336 (r110) (14 : Int) = F321 (r110) (14 : Int) from hM338 _ _ b114.1 (own_z b114.1) (by rw [b114.2]; rfl)).trans (show F321 (r110) (14 : Int) = F109 (r110) (14 : Int) from hM323 _ _ b114.1 (own_z b114.1) (by rw [b114.2]; rfl))))
            exact ih _ (by omega) L358 m108 tg108 ln108 F350 (sz) (kd) ((k + (1))) (bf) (r110) (r110) rfl g359 g360 g361 g365 g362 g364 hX152 hC351 hM356 (by omega) (by omega) (by omega) y147 (Or.inr ⟨b114.1, b114.2⟩) (by omega) (by omega) (by omega) (by omega) (by omega) (by omega) (by omega) (by omega) (by omega) (by omega) (by omega) c357 c153 (((show F350 (me) (2 : Int) = F336 (me) (2 : Int) from hM352 _ _ ho146.1 (own_z ho146.1) (by rw [ho146.2]; rfl)).trans (show F336 (me) (2 : Int) = F321 (me) (2 : Int) from hM338 _ _ ho146.1 (own_z ho146.1) (by rw [ho146.2]; rfl))).trans p324) (Or.inr ⟨b114.1, b114.2⟩)
          · have _q := h345
            refine jx_go (tg := 196) rfl rfl ?_
            refine jx_ld (pc_q := 197) (l_q := L312) (st_q := [rv (me)]) rfl (jl_rvn g313) ?_
            refine jx_ar (pc_q := 199) (st_q := [.int (i32 (53)), rv (me)]) rfl rfl rfl rfl ?_
            have q370 := tz_b (F336 (sc) (15 : Int))
            have q371 : F336 (sc) (7 : Int) = F (sc) (7 : Int) := ((show F336 (sc) (7 : Int) = F321 (sc) (7 : Int) from hM338 _ _ ho149.1 (own_z ho149.1) (by rw [ho149.2]; rfl)).trans q332)
            have q372 := lz_b (F336 (sc) (14 : Int))
            have q373 : F336 (pg) (9 : Int) = F (pg) (9 : Int) := ((show F336 (pg) (9 : Int) = F321 (pg) (9 : Int) from hM338 _ _ ho150.1 (own_z ho150.1) (by rw [ho150.2]; rfl)).trans ((show F321 (pg) (9 : Int) = F109 (pg) (9 : Int) from hM323 _ _ ho150.1 (own_z ho150.1) (by rw [ho150.2]; rfl)).trans ((show F109 (pg) (9 : Int) = Fx (pg) (9 : Int) from hM113 _ _ ho4.1 (own_z ho4.1) (by rw [ho4.2]; rfl)).trans (show Fx (pg) (9 : Int) = F (pg) (9 : Int) from hMx _ _ o_pg (own_z o_pg) (by rw [t_pg]; rfl)))))
            refine cx_vi (c := 8) (a := me) (st := []) (as := [.int (i32 (53))]) rfl rfl rfl ho146.1 ho146.2 (by decide) rfl ⟨rfl, rfl, (Nat.le_of_ble_eq_true rfl)⟩ rfl (k_LParser_expect (dd := d) (R := R) (m := m108) (tg := tg108) (ln := ln108) (F := F336) (me := me) (tk := 53) (hd := by omega) (hC := hC337) (o_me := ho146.1) (t_me := ho146.2) (h_tk := by omega) (sc := sc) (pg := pg) (o_sc := ho149.1) (t_sc := ho149.2) (e_sc := (((show F336 (me) (1 : Int) = F321 (me) (1 : Int) from hM338 _ _ ho146.1 (own_z ho146.1) (by rw [ho146.2]; rfl)).trans ((show F321 (me) (1 : Int) = F109 (me) (1 : Int) from hM323 _ _ ho146.1 (own_z ho146.1) (by rw [ho146.2]; rfl)).trans ((show F109 (me) (1 : Int) = Fx (me) (1 : Int) from hM113 _ _ ho2.1 (own_z ho2.1) (by rw [ho2.2]; rfl)).trans (show Fx (me) (1 : Int) = F (me) (1 : Int) from hMx _ _ o_me (own_z o_me) (by rw [t_me]; rfl))))).trans e_sc)) (o_pg := ho150.1) (t_pg := ho150.2) (e_pg := (((show F336 (me) (0 : Int) = F321 (me) (0 : Int) from hM338 _ _ ho146.1 (own_z ho146.1) (by rw [ho146.2]; rfl)).trans ((show F321 (me) (0 : Int) = F109 (me) (0 : Int) from hM323 _ _ ho146.1 (own_z ho146.1) (by rw [ho146.2]; rfl)).trans ((show F109 (me) (0 : Int) = Fx (me) (0 : Int) from hM113 _ _ ho2.1 (own_z ho2.1) (by rw [ho2.2]; rfl)).trans (show Fx (me) (0 : Int) = F (me) (0 : Int) from hMx _ _ o_me (own_z o_me) (by rw [t_me]; rfl))))).trans e_pg)) (p_0 := by omega) (p_1 := by omega) (p_2 := by omega) (p_3 := by omega) (c_NP := c343)) (fun o V_q hq => ?_)
            obtain ⟨m374, tg374, ln374, F375, rfl, rfl, hx376, hC377, hM378, p379, p380, p381, p382, p383, p384, p385, c386, c387, -⟩ | ⟨m388, tg388, ln388, F388, x388, rfl, rfl, hx388, hC388, hM388, ho388, ht388, p389, p390, p391, p392, c393, c394, -⟩ := hq
            rotate_left
            ·
              have c395 : NM m m388 tg388 := NM_t c153 hx388 c394
              have lm396 := hx388.1
              refine Or.inr (Or.inr (Or.inr ⟨_, _, rfl, cx_exc (c := 15) ho388 ht388 (by decide), rfl, ?_⟩))
              have q397 : F336 (sc) (7 : Int) = F (sc) (7 : Int) := q371
              exact Or.inr ⟨m388, tg388, ln388, F388, x388, rfl, rfl, Ex_t hX152 hx388, hC388, Fq_t (ln := ln) (ln1 := ln108) hM342 hX152 hM388 (by decide) (Or.inl rfl), (And.intro ho388 ht388).1, (And.intro ho388 ht388).2, by omega, by omega, by omega, by omega, c393, c395, trivial⟩
            have hM398 : Fq 0 [(7, 15), (9, 2), (9, 3), (10, 0), (10, 1), (10, 2), (10, 8), (11, 8), (11, 12), (11, 13), (11, 14), (11, 15), (11, 16), (11, 17), (11, 18)] m tg F F375 := Fq_t (ln := ln) (ln1 := ln108) hM342 hX152 hM378 (by decide) (Or.inl rfl)
            have lm399 := hx376.1
            have lt400 : bf < 64 + (m108 : Int) := by rcases y147 with w | w; (· omega); exact w.1.2.1
            have lt401 : r110 < 64 + (m108 : Int) := b114.1.2.1
            have lt402 : tp < 64 + (m108 : Int) := by rcases y151 with w | w; (· omega); exact w.1.2.1
            have ho403 : own m374 (me) ∧ tg374 (me) = 9 := Ex_o hx376 ⟨ho146.1, ho146.2⟩
            have y404 : bf = 0 ∨ (own m374 (bf) ∧ tg374 (bf) = 7) := Ex_z hx376 y147
            have ho405 : own m374 (r110) ∧ tg374 (r110) = 7 := Ex_o hx376 ⟨b114.1, b114.2⟩
            have ho406 : own m374 (sc) ∧ tg374 (sc) = 11 := Ex_o hx376 ⟨ho149.1, ho149.2⟩
            have ho407 : own m374 (pg) ∧ tg374 (pg) = 10 := Ex_o hx376 ⟨ho150.1, ho150.2⟩
            have y408 : tp = 0 ∨ (own m374 (tp) ∧ tg374 (tp) = 7) := Ex_z hx376 y151
            have hX409 := Ex_t hX152 hx376
            have c410 : NM m m374 tg374 := NM_t c153 hx376 c387
            refine Or.inl ⟨rfl, ?_⟩
            refine jx_ld (pc_q := 203) (l_q := L312) (st_q := [rv (me)]) rfl (jl_rvn g313) ?_
            have q411 := tz_b (F375 (sc) (15 : Int))
            have q412 : F375 (sc) (7 : Int) = F (sc) (7 : Int) := ((show F375 (sc) (7 : Int) = F336 (sc) (7 : Int) from hM378 _ _ ho149.1 (own_z ho149.1) (by rw [ho149.2]; rfl)).trans q371)
            have q413 := lz_b (F375 (sc) (14 : Int))
            have q414 : F375 (pg) (9 : Int) = F (pg) (9 : Int) := ((show F375 (pg) (9 : Int) = F336 (pg) (9 : Int) from hM378 _ _ ho150.1 (own_z ho150.1) (by rw [ho150.2]; rfl)).trans q373)
            refine cx_vi (c := 8) (a := me) (st := []) (as := []) rfl rfl rfl ho403.1 ho403.2 (by decide) rfl ⟨rfl, rfl, (Nat.le_of_ble_eq_true rfl)⟩ rfl (k_LParser_endLine (dd := d) (R := R) (m := m374) (tg := tg374) (ln := ln374) (F := F375) (me := me) (hd := by omega) (hC := hC377) (o_me := ho403.1) (t_me := ho403.2) (sc := sc) (pg := pg) (o_sc := ho406.1) (t_sc := ho406.2) (e_sc := (((show F375 (me) (1 : Int) = F336 (me) (1 : Int) from hM378 _ _ ho146.1 (own_z ho146.1) (by rw [ho146.2]; rfl)).trans ((show F336 (me) (1 : Int) = F321 (me) (1 : Int) from hM338 _ _ ho146.1 (own_z ho146.1) (by rw [ho146.2]; rfl)).trans ((show F321 (me) (1 : Int) = F109 (me) (1 : Int) from hM323 _ _ ho146.1 (own_z ho146.1) (by rw [ho146.2]; rfl)).trans ((show F109 (me) (1 : Int) = Fx (me) (1 : Int) from hM113 _ _ ho2.1 (own_z ho2.1) (by rw [ho2.2]; rfl)).trans (show Fx (me) (1 : Int) = F (me) (1 : Int) from hMx _ _ o_me (own_z o_me) (by rw [t_me]; rfl)))))).trans e_sc)) (o_pg := ho407.1) (t_pg := ho407.2) (e_pg := (((show F375 (me) (0 : Int) = F336 (me) (0 : Int) from hM378 _ _ ho146.1 (own_z ho146.1) (by rw [ho146.2]; rfl)).trans ((show F336 (me) (0 : Int) = F321 (me) (0 : Int) from hM338 _ _ ho146.1 (own_z ho146.1) (by rw [ho146.2]; rfl)).trans ((show F321 (me) (0 : Int) = F109 (me) (0 : Int) from hM323 _ _ ho146.1 (own_z ho146.1) (by rw [ho146.2]; rfl)).trans ((show F109 (me) (0 : Int) = Fx (me) (0 : Int) from hM113 _ _ ho2.1 (own_z ho2.1) (by rw [ho2.2]; rfl)).trans (show Fx (me) (0 : Int) = F (me) (0 : Int) from hMx _ _ o_me (own_z o_me) (by rw [t_me]; rfl)))))).trans e_pg)) (p_0 := by omega) (p_1 := by omega) (p_2 := by omega) (c_NP := c386)) (fun o V_q hq => ?_)
            obtain ⟨m415, tg415, ln415, F416, rfl, rfl, hx417, hC418, hM419, p420, p421, p422, p423, p424, p425, p426, c427, c428, -⟩ | ⟨m429, tg429, ln429, F429, x429, rfl, rfl, hx429, hC429, hM429, ho429, ht429, p430, p431, p432, p433, c434, c435, -⟩ := hq
            rotate_left
            ·
              have c436 : NM m m429 tg429 := NM_t c410 hx429 c435
              have lm437 := hx429.1
              refine Or.inr (Or.inr (Or.inr ⟨_, _, rfl, cx_exc (c := 15) ho429 ht429 (by decide), rfl, ?_⟩))
              have q438 : F375 (sc) (7 : Int) = F (sc) (7 : Int) := q412
              exact Or.inr ⟨m429, tg429, ln429, F429, x429, rfl, rfl, Ex_t hX409 hx429, hC429, Fq_t (ln := ln) (ln1 := ln374) hM398 hX409 hM429 (by decide) (Or.inl rfl), (And.intro ho429 ht429).1, (And.intro ho429 ht429).2, by omega, by omega, by omega, by omega, c434, c436, trivial⟩
            have hM439 : Fq 0 [(7, 15), (9, 2), (9, 3), (10, 0), (10, 1), (10, 2), (10, 8), (11, 8), (11, 12), (11, 13), (11, 14), (11, 15), (11, 16), (11, 17), (11, 18)] m tg F F416 := Fq_t (ln := ln) (ln1 := ln374) hM398 hX409 hM419 (by decide) (Or.inl rfl)
            have lm440 := hx417.1
            have lt441 : bf < 64 + (m374 : Int) := by rcases y404 with w | w; (· omega); exact w.1.2.1
            have lt442 : r110 < 64 + (m374 : Int) := ho405.1.2.1
            have lt443 : tp < 64 + (m374 : Int) := by rcases y408 with w | w; (· omega); exact w.1.2.1
            have ho444 : own m415 (me) ∧ tg415 (me) = 9 := Ex_o hx417 ⟨ho403.1, ho403.2⟩
            have y445 : bf = 0 ∨ (own m415 (bf) ∧ tg415 (bf) = 7) := Ex_z hx417 y404
            have ho446 : own m415 (r110) ∧ tg415 (r110) = 7 := Ex_o hx417 ⟨ho405.1, ho405.2⟩
            have ho447 : own m415 (sc) ∧ tg415 (sc) = 11 := Ex_o hx417 ⟨ho406.1, ho406.2⟩
            have ho448 : own m415 (pg) ∧ tg415 (pg) = 10 := Ex_o hx417 ⟨ho407.1, ho407.2⟩
            have y449 : tp = 0 ∨ (own m415 (tp) ∧ tg415 (tp) = 7) := Ex_z hx417 y408
            have hX450 := Ex_t hX409 hx417
            have c451 : NM m m415 tg415 := NM_t c410 hx417 c428
            refine Or.inl ⟨rfl, ?_⟩
            refine jx_ld (pc_q := 208) (l_q := L312) (st_q := [rv (r110)]) rfl (jl_rv g319) ?_
            refine jx_rt (v := some (rv (r110))) rfl rfl rfl rfl rfl jr_are ?_
            have q452 : F416 (sc) (7 : Int) = F (sc) (7 : Int) := ((show F416 (sc) (7 : Int) = F375 (sc) (7 : Int) from hM419 _ _ ho406.1 (own_z ho406.1) (by rw [ho406.2]; rfl)).trans q412)
            have q453 : F416 (pg) (9 : Int) = F (pg) (9 : Int) := ((show F416 (pg) (9 : Int) = F375 (pg) (9 : Int) from hM419 _ _ ho407.1 (own_z ho407.1) (by rw [ho407.2]; rfl)).trans q414)
            have q454 := tz_b (F416 (sc) (15 : Int))
            have q455 := lz_b (F416 (sc) (14 : Int))
            have q456 : F416 (pg) (9 : Int) = F (pg) (9 : Int) := q453
            have q457 : F416 (me) (2 : Int) = r110 := (((show F416 (me) (2 : Int) = F375 (me) (2 : Int) from hM419 _ _ ho403.1 (own_z ho403.1) (by rw [ho403.2]; rfl)).trans ((show F375 (me) (2 : Int) = F336 (me) (2 : Int) from hM378 _ _ ho146.1 (own_z ho146.1) (by rw [ho146.2]; rfl)).trans (show F336 (me) (2 : Int) = F321 (me) (2 : Int) from hM338 _ _ ho146.1 (own_z ho146.1) (by rw [ho146.2]; rfl)))).trans p324)
            exact Or.inl ⟨m415, tg415, ln415, F416, (r110), rfl, rfl, hX450, hC418, hM439, ⟨ho446.1, ho446.2⟩, by omega, by omega, by omega, by omega, by omega, by omega, by omega, by omega, by rw [show F416 (me) (2 : Int) = r110 from q457, show F416 (r110) (14 : Int) = F109 (r110) (14 : Int) from ((show F416 (r110) (14 : Int) = F375 (r110) (14 : Int) from hM419 _ _ ho405.1 (own_z ho405.1) (by rw [ho405.2]; rfl)).trans ((show F375 (r110) (14 : Int) = F336 (r110) (14 : Int) from hM378 _ _ b114.1 (own_z b114.1) (by rw [b114.2]; rfl)).trans ((show F336 (r110) (14 : Int) = F321 (r110) (14 : Int) from hM338 _ _ b114.1 (own_z b114.1) (by rw [b114.2]; rfl)).trans (show F321 (r110) (14 : Int) = F109 (r110) (14 : Int) from hM323 _ _ b114.1 (own_z b114.1) (by rw [b114.2]; rfl)))))]; omega, c427, c451, trivial⟩
    · have _q := h6
      have ho458 : own mx (tp) ∧ tgx (tp) = 7 := yx_tp.resolve_left h6
      refine jx_ld (pc_q := 113) (l_q := L) (st_q := [.int (i32 (k))]) rfl (jl_iload gL_7) ?_
      refine jx_ar (pc_q := 116) (st_q := [.int (i32 (3000)), .int (i32 (k))]) rfl rfl rfl rfl ?_
      refine jx_icmp_ge (pc_q := 119) (tg := 196) rfl rfl rfl (by omega) (by omega) (by decide) (by decide) (fun h459 => ?_) (fun h459 => ?_)
      · have _q := h459
        refine jx_ld (pc_q := 197) (l_q := L) (st_q := [rv (me)]) rfl (jl_rvn gL_0) ?_
        refine jx_ar (pc_q := 199) (st_q := [.int (i32 (53)), rv (me)]) rfl rfl rfl rfl ?_
        have q460 := tz_b (Fx (sc) (15 : Int))
        have q461 : Fx (sc) (7 : Int) = F (sc) (7 : Int) := (show Fx (sc) (7 : Int) = F (sc) (7 : Int) from hMx _ _ o_sc (own_z o_sc) (by rw [t_sc]; rfl))
        have q462 := lz_b (Fx (sc) (14 : Int))
        have q463 : Fx (pg) (9 : Int) = F (pg) (9 : Int) := (show Fx (pg) (9 : Int) = F (pg) (9 : Int) from hMx _ _ o_pg (own_z o_pg) (by rw [t_pg]; rfl))
        refine cx_vi (c := 8) (a := me) (st := []) (as := [.int (i32 (53))]) rfl rfl rfl ho2.1 ho2.2 (by decide) rfl ⟨rfl, rfl, (Nat.le_of_ble_eq_true rfl)⟩ rfl (k_LParser_expect (dd := d) (R := R) (m := mx) (tg := tgx) (ln := lnx) (F := Fx) (me := me) (tk := 53) (hd := by omega) (hC := hCx) (o_me := ho2.1) (t_me := ho2.2) (h_tk := by omega) (sc := sc) (pg := pg) (o_sc := ho3.1) (t_sc := ho3.2) (e_sc := ((show Fx (me) (1 : Int) = F (me) (1 : Int) from hMx _ _ o_me (own_z o_me) (by rw [t_me]; rfl)).trans e_sc)) (o_pg := ho4.1) (t_pg := ho4.2) (e_pg := ((show Fx (me) (0 : Int) = F (me) (0 : Int) from hMx _ _ o_me (own_z o_me) (by rw [t_me]; rfl)).trans e_pg)) (p_0 := by omega) (p_1 := by omega) (p_2 := by omega) (p_3 := by omega) (c_NP := cx_NP)) (fun o V_q hq => ?_)
        obtain ⟨m464, tg464, ln464, F465, rfl, rfl, hx466, hC467, hM468, p469, p470, p471, p472, p473, p474, p475, c476, c477, -⟩ | ⟨m478, tg478, ln478, F478, x478, rfl, rfl, hx478, hC478, hM478, ho478, ht478, p479, p480, p481, p482, c483, c484, -⟩ := hq
        rotate_left
        ·
          have c485 : NM m m478 tg478 := NM_t cx_NM hx478 c484
          have lm486 := hx478.1
          refine Or.inr (Or.inr (Or.inr ⟨_, _, rfl, cx_exc (c := 15) ho478 ht478 (by decide), rfl, ?_⟩))
          have q487 : Fx (sc) (7 : Int) = F (sc) (7 : Int) := (show Fx (sc) (7 : Int) = F (sc) (7 : Int) from hMx _ _ o_sc (own_z o_sc) (by rw [t_sc]; rfl))
          exact Or.inr ⟨m478, tg478, ln478, F478, x478, rfl, rfl, Ex_t hXx hx478, hC478, Fq_t (ln := ln) (ln1 := lnx) hMx hXx hM478 (by decide) (Or.inl rfl), (And.intro ho478 ht478).1, (And.intro ho478 ht478).2, by omega, by omega, by omega, by omega, c483, c485, trivial⟩
        have hM488 : Fq 0 [(7, 15), (9, 2), (9, 3), (10, 0), (10, 1), (10, 2), (10, 8), (11, 8), (11, 12), (11, 13), (11, 14), (11, 15), (11, 16), (11, 17), (11, 18)] m tg F F465 := Fq_t (ln := ln) (ln1 := lnx) hMx hXx hM468 (by decide) (Or.inl rfl)
        have lm489 := hx466.1
        have lt490 : bf < 64 + (mx : Int) := by rcases yx_bf with w | w; (· omega); exact w.1.2.1
        have lt491 : fi < 64 + (mx : Int) := by rcases yx_fi with w | w; (· omega); exact w.1.2.1
        have lt492 : tp < 64 + (mx : Int) := ho458.1.2.1
        have ho493 : own m464 (me) ∧ tg464 (me) = 9 := Ex_o hx466 ⟨ho2.1, ho2.2⟩
        have y494 : bf = 0 ∨ (own m464 (bf) ∧ tg464 (bf) = 7) := Ex_z hx466 yx_bf
        have y495 : fi = 0 ∨ (own m464 (fi) ∧ tg464 (fi) = 7) := Ex_z hx466 yx_fi
        have ho496 : own m464 (sc) ∧ tg464 (sc) = 11 := Ex_o hx466 ⟨ho3.1, ho3.2⟩
        have ho497 : own m464 (pg) ∧ tg464 (pg) = 10 := Ex_o hx466 ⟨ho4.1, ho4.2⟩
        have ho498 : own m464 (tp) ∧ tg464 (tp) = 7 := Ex_o hx466 ⟨ho458.1, ho458.2⟩
        have hX499 := Ex_t hXx hx466
        have c500 : NM m m464 tg464 := NM_t cx_NM hx466 c477
        refine Or.inl ⟨rfl, ?_⟩
        refine jx_ld (pc_q := 203) (l_q := L) (st_q := [rv (me)]) rfl (jl_rvn gL_0) ?_
        have q501 := tz_b (F465 (sc) (15 : Int))
        have q502 : F465 (sc) (7 : Int) = F (sc) (7 : Int) := ((show F465 (sc) (7 : Int) = Fx (sc) (7 : Int) from hM468 _ _ ho3.1 (own_z ho3.1) (by rw [ho3.2]; rfl)).trans (show Fx (sc) (7 : Int) = F (sc) (7 : Int) from hMx _ _ o_sc (own_z o_sc) (by rw [t_sc]; rfl)))
        have q503 := lz_b (F465 (sc) (14 : Int))
        have q504 : F465 (pg) (9 : Int) = F (pg) (9 : Int) := ((show F465 (pg) (9 : Int) = Fx (pg) (9 : Int) from hM468 _ _ ho4.1 (own_z ho4.1) (by rw [ho4.2]; rfl)).trans (show Fx (pg) (9 : Int) = F (pg) (9 : Int) from hMx _ _ o_pg (own_z o_pg) (by rw [t_pg]; rfl)))
        refine cx_vi (c := 8) (a := me) (st := []) (as := []) rfl rfl rfl ho493.1 ho493.2 (by decide) rfl ⟨rfl, rfl, (Nat.le_of_ble_eq_true rfl)⟩ rfl (k_LParser_endLine (dd := d) (R := R) (m := m464) (tg := tg464) (ln := ln464) (F := F465) (me := me) (hd := by omega) (hC := hC467) (o_me := ho493.1) (t_me := ho493.2) (sc := sc) (pg := pg) (o_sc := ho496.1) (t_sc := ho496.2) (e_sc := (((show F465 (me) (1 : Int) = Fx (me) (1 : Int) from hM468 _ _ ho2.1 (own_z ho2.1) (by rw [ho2.2]; rfl)).trans (show Fx (me) (1 : Int) = F (me) (1 : Int) from hMx _ _ o_me (own_z o_me) (by rw [t_me]; rfl))).trans e_sc)) (o_pg := ho497.1) (t_pg := ho497.2) (e_pg := (((show F465 (me) (0 : Int) = Fx (me) (0 : Int) from hM468 _ _ ho2.1 (own_z ho2.1) (by rw [ho2.2]; rfl)).trans (show Fx (me) (0 : Int) = F (me) (0 : Int) from hMx _ _ o_me (own_z o_me) (by rw [t_me]; rfl))).trans e_pg)) (p_0 := by omega) (p_1 := by omega) (p_2 := by omega) (c_NP := c476)) (fun o V_q hq => ?_)
        obtain ⟨m505, tg505, ln505, F506, rfl, rfl, hx507, hC508, hM509, p510, p511, p512, p513, p514, p515, p516, c517, c518, -⟩ | ⟨m519, tg519, ln519, F519, x519, rfl, rfl, hx519, hC519, hM519, ho519, ht519, p520, p521, p522, p523, c524, c525, -⟩ := hq
        rotate_left
        ·
          have c526 : NM m m519 tg519 := NM_t c500 hx519 c525
          have lm527 := hx519.1
          refine Or.inr (Or.inr (Or.inr ⟨_, _, rfl, cx_exc (c := 15) ho519 ht519 (by decide), rfl, ?_⟩))
          have q528 : F465 (sc) (7 : Int) = F (sc) (7 : Int) := q502
          exact Or.inr ⟨m519, tg519, ln519, F519, x519, rfl, rfl, Ex_t hX499 hx519, hC519, Fq_t (ln := ln) (ln1 := ln464) hM488 hX499 hM519 (by decide) (Or.inl rfl), (And.intro ho519 ht519).1, (And.intro ho519 ht519).2, by omega, by omega, by omega, by omega, c524, c526, trivial⟩
        have hM529 : Fq 0 [(7, 15), (9, 2), (9, 3), (10, 0), (10, 1), (10, 2), (10, 8), (11, 8), (11, 12), (11, 13), (11, 14), (11, 15), (11, 16), (11, 17), (11, 18)] m tg F F506 := Fq_t (ln := ln) (ln1 := ln464) hM488 hX499 hM509 (by decide) (Or.inl rfl)
        have lm530 := hx507.1
        have lt531 : bf < 64 + (m464 : Int) := by rcases y494 with w | w; (· omega); exact w.1.2.1
        have lt532 : fi < 64 + (m464 : Int) := by rcases y495 with w | w; (· omega); exact w.1.2.1
        have lt533 : tp < 64 + (m464 : Int) := ho498.1.2.1
        have ho534 : own m505 (me) ∧ tg505 (me) = 9 := Ex_o hx507 ⟨ho493.1, ho493.2⟩
        have y535 : bf = 0 ∨ (own m505 (bf) ∧ tg505 (bf) = 7) := Ex_z hx507 y494
        have y536 : fi = 0 ∨ (own m505 (fi) ∧ tg505 (fi) = 7) := Ex_z hx507 y495
        have ho537 : own m505 (sc) ∧ tg505 (sc) = 11 := Ex_o hx507 ⟨ho496.1, ho496.2⟩
        have ho538 : own m505 (pg) ∧ tg505 (pg) = 10 := Ex_o hx507 ⟨ho497.1, ho497.2⟩
        have ho539 : own m505 (tp) ∧ tg505 (tp) = 7 := Ex_o hx507 ⟨ho498.1, ho498.2⟩
        have hX540 := Ex_t hX499 hx507
        have c541 : NM m m505 tg505 := NM_t c500 hx507 c518
        refine Or.inl ⟨rfl, ?_⟩
        refine jx_ld (pc_q := 208) (l_q := L) (st_q := [rv (fi)]) rfl (jl_rv gL_6) ?_
        refine jx_rt (v := some (rv (fi))) rfl rfl rfl rfl rfl jr_are ?_
        have hn542 : fi ≠ 0 := by omega
        have ho543 : own m505 (fi) ∧ tg505 (fi) = 7 := y536.resolve_left hn542
        have q544 : F506 (sc) (7 : Int) = F (sc) (7 : Int) := ((show F506 (sc) (7 : Int) = F465 (sc) (7 : Int) from hM509 _ _ ho496.1 (own_z ho496.1) (by rw [ho496.2]; rfl)).trans q502)
        have q545 : F506 (pg) (9 : Int) = F (pg) (9 : Int) := ((show F506 (pg) (9 : Int) = F465 (pg) (9 : Int) from hM509 _ _ ho497.1 (own_z ho497.1) (by rw [ho497.2]; rfl)).trans q504)
        have q546 := tz_b (F506 (sc) (15 : Int))
        have q547 := lz_b (F506 (sc) (14 : Int))
        have q548 : F506 (pg) (9 : Int) = F (pg) (9 : Int) := q545
        have q549 : F506 (me) (2 : Int) = tp := (((show F506 (me) (2 : Int) = F465 (me) (2 : Int) from hM509 _ _ ho493.1 (own_z ho493.1) (by rw [ho493.2]; rfl)).trans (show F465 (me) (2 : Int) = Fx (me) (2 : Int) from hM468 _ _ ho2.1 (own_z ho2.1) (by rw [ho2.2]; rfl))).trans gv_tp)
        exact Or.inl ⟨m505, tg505, ln505, F506, (fi), rfl, rfl, hX540, hC508, hM529, ⟨ho543.1, ho543.2⟩, by omega, by omega, by omega, by omega, by omega, by omega, by omega, by omega, by rw [show F506 (me) (2 : Int) = tp from q549, show F506 (tp) (14 : Int) = Fx (tp) (14 : Int) from ((show F506 (tp) (14 : Int) = F465 (tp) (14 : Int) from hM509 _ _ ho498.1 (own_z ho498.1) (by rw [ho498.2]; rfl)).trans (show F465 (tp) (14 : Int) = Fx (tp) (14 : Int) from hM468 _ _ ho458.1 (own_z ho458.1) (by rw [ho458.2]; rfl)))]; omega, c517, c541, trivial⟩
      · have _q := h459
        refine jx_ld (pc_q := 120) (l_q := L) (st_q := [rv (me)]) rfl (jl_rvn gL_0) ?_
        refine jx_ld (pc_q := 122) (l_q := L) (st_q := [.int (i32 (kd)), rv (me)]) rfl (jl_iload gL_4) ?_
        refine jx_ld (pc_q := 123) (l_q := L) (st_q := [.int (i32 (sz)), .int (i32 (kd)), rv (me)]) rfl (jl_iloadn gL_1) ?_
        refine jx_ar (pc_q := 124) (st_q := [.int (i32 (1)), .int (i32 (sz)), .int (i32 (kd)), rv (me)]) rfl rfl rfl rfl ?_
        refine cx_st (st := [.int (i32 (kd)), rv (me)]) (as := [.int (i32 (sz)), .int (i32 (1))]) rfl rfl rfl ⟨rfl, (by rw [jS_i, jS_r, jS_0]; exact Nat.le_of_ble_eq_true rfl)⟩ rfl (k_java_lang_Math_max (dd := d) (R := R) (u := 0) (m := mx) (tg := tgx) (ln := lnx) (F := Fx) (a := sz) (b := 1) (hd := by omega) (hC := hCx) (h_a := by omega) (h_b := by omega)) (fun o V_q hq => ?_)
        obtain ⟨r550, rfl, rfl, b551, p552, p553, p554, -⟩ := hq
        refine Or.inr (Or.inl ⟨_, rfl, ?_⟩)
        refine jx_ld (pc_q := 129) (l_q := L) (st_q := [rv (bf), .int (i32 (r550)), .int (i32 (kd)), rv (me)]) rfl (jl_rv gL_5) ?_
        have q555 := tz_b (Fx (sc) (15 : Int))
        have q556 : Fx (sc) (7 : Int) = F (sc) (7 : Int) := (show Fx (sc) (7 : Int) = F (sc) (7 : Int) from hMx _ _ o_sc (own_z o_sc) (by rw [t_sc]; rfl))
        have q557 := lz_b (Fx (sc) (14 : Int))
        have q558 : Fx (pg) (9 : Int) = F (pg) (9 : Int) := (show Fx (pg) (9 : Int) = F (pg) (9 : Int) from hMx _ _ o_pg (own_z o_pg) (by rw [t_pg]; rfl))
        have q559 : Fx (me) (2 : Int) = tp := gv_tp
        refine cx_vi (c := 8) (a := me) (st := []) (as := [.int (i32 (kd)), .int (i32 (r550)), rv (bf)]) rfl rfl rfl ho2.1 ho2.2 (by decide) rfl ⟨rfl, rfl, (Nat.le_of_ble_eq_true rfl)⟩ rfl (k_LParser_fresh (dd := d) (R := R) (m := mx) (tg := tgx) (ln := lnx) (F := Fx) (me := me) (kd := kd) (sz := r550) (si := bf) (hd := by omega) (hC := hCx) (o_me := ho2.1) (t_me := ho2.2) (h_kd := by omega) (h_sz := by omega) (y_si := yx_bf) (sc := sc) (pg := pg) (o_sc := ho3.1) (t_sc := ho3.2) (e_sc := ((show Fx (me) (1 : Int) = F (me) (1 : Int) from hMx _ _ o_me (own_z o_me) (by rw [t_me]; rfl)).trans e_sc)) (o_pg := ho4.1) (t_pg := ho4.2) (e_pg := ((show Fx (me) (0 : Int) = F (me) (0 : Int) from hMx _ _ o_me (own_z o_me) (by rw [t_me]; rfl)).trans e_pg)) (p_0 := by omega) (p_1 := by omega) (p_2 := by omega) (c_NP := cx_NP)) (fun o V_q hq => ?_)
        obtain ⟨m560, tg560, ln560, F561, r562, rfl, rfl, hx563, hC564, hM565, b566, p567, p568, p569, p570, p571, p572, p573, p574, p575, p576, p577, p578, p579, p580, c581, c582, -⟩ | ⟨m583, tg583, ln583, F583, x583, rfl, rfl, hx583, hC583, hM583, ho583, ht583, p584, p585, p586, p587, c588, c589, -⟩ := hq
        rotate_left
        ·
          have c590 : NM m m583 tg583 := NM_t cx_NM hx583 c589
          have lm591 := hx583.1
          refine Or.inr (Or.inr (Or.inr ⟨_, _, rfl, cx_exc (c := 15) ho583 ht583 (by decide), rfl, ?_⟩))
          have q592 : Fx (sc) (7 : Int) = F (sc) (7 : Int) := (show Fx (sc) (7 : Int) = F (sc) (7 : Int) from hMx _ _ o_sc (own_z o_sc) (by rw [t_sc]; rfl))
          exact Or.inr ⟨m583, tg583, ln583, F583, x583, rfl, rfl, Ex_t hXx hx583, hC583, Fq_t (ln := ln) (ln1 := lnx) hMx hXx hM583 (by decide) (Or.inl rfl), (And.intro ho583 ht583).1, (And.intro ho583 ht583).2, by omega, by omega, by omega, by omega, c588, c590, trivial⟩
        have hM593 : Fq 0 [(7, 15), (9, 2), (9, 3), (10, 0), (10, 1), (10, 2), (10, 8), (11, 8), (11, 12), (11, 13), (11, 14), (11, 15), (11, 16), (11, 17), (11, 18)] m tg F F561 := Fq_t (ln := ln) (ln1 := lnx) hMx hXx hM565 (by decide) (Or.inl rfl)
        have lm594 := hx563.1
        have lt595 : bf < 64 + (mx : Int) := by rcases yx_bf with w | w; (· omega); exact w.1.2.1
        have lt596 : fi < 64 + (mx : Int) := by rcases yx_fi with w | w; (· omega); exact w.1.2.1
        have lt597 : tp < 64 + (mx : Int) := ho458.1.2.1
        have ho598 : own m560 (me) ∧ tg560 (me) = 9 := Ex_o hx563 ⟨ho2.1, ho2.2⟩
        have y599 : bf = 0 ∨ (own m560 (bf) ∧ tg560 (bf) = 7) := Ex_z hx563 yx_bf
        have y600 : fi = 0 ∨ (own m560 (fi) ∧ tg560 (fi) = 7) := Ex_z hx563 yx_fi
        have ho601 : own m560 (sc) ∧ tg560 (sc) = 11 := Ex_o hx563 ⟨ho3.1, ho3.2⟩
        have ho602 : own m560 (pg) ∧ tg560 (pg) = 10 := Ex_o hx563 ⟨ho4.1, ho4.2⟩
        have ho603 : own m560 (tp) ∧ tg560 (tp) = 7 := Ex_o hx563 ⟨ho458.1, ho458.2⟩
        have hX604 := Ex_t hXx hx563
        have c605 : NM m m560 tg560 := NM_t cx_NM hx563 c582
        refine Or.inr (Or.inl ⟨_, rfl, ?_⟩)
        refine jx_ld (pc_q := 134) (l_q := jSto1 L 8 (rv (r562))) (st_q := []) rfl (js_rv (by decide)) ?_
        obtain ⟨L606, eL606⟩ : ∃ q : jL, q = jSto1 L 8 (rv (r562)) := ⟨_, rfl⟩
        rw [← eL606]
        have g607 : jGet L606 0 = some (rv (me)) := eL606 ▸ jg_nr (by decide) gL_0
        have g608 : jGet L606 1 = some (.int (i32 (sz))) := eL606 ▸ jg_ne (by decide) gL_1 rfl
        have g609 : jGet L606 4 = some (.int (i32 (kd))) := eL606 ▸ jg_ne (by decide) gL_4 rfl
        have g610 : jGet L606 7 = some (.int (i32 (k))) := eL606 ▸ jg_ne (by decide) gL_7 rfl
        have g611 : jGet L606 5 = some (rv (bf)) := eL606 ▸ jg_nr (by decide) gL_5
        have g612 : jGet L606 6 = some (rv (fi)) := eL606 ▸ jg_nr (by decide) gL_6
        have g613 : jGet L606 8 = some (rv (r562)) := eL606 ▸ jg_eq
        clear eL606
        refine jx_ld (pc_q := 136) (l_q := L606) (st_q := [rv (fi)]) rfl (jl_rv g612) ?_
        refine cx_non (pc_q := 139) (tg_q := 146) rfl rfl rfl (fun h614 => ?_) (fun h614 => ?_)
        · have _q := h614
          have ho615 : own m560 (fi) ∧ tg560 (fi) = 7 := y600.resolve_left h614
          refine jx_ld (pc_q := 147) (l_q := L606) (st_q := [rv (me)]) rfl (jl_rvn g607) ?_
          refine cx_gr (pc_q := 150) (c := 8) (q := 2) (v := tp) rfl rfl (by decide) (by decide) rfl rfl ho598.1 ho598.2 ((show F561 (me) (2 : Int) = Fx (me) (2 : Int) from hM565 _ _ ho2.1 (own_z ho2.1) (by rw [ho2.2]; rfl)).trans gv_tp) ?_
          refine jx_ld (pc_q := 152) (l_q := L606) (st_q := [rv (r562), rv (tp)]) rfl (jl_rv g613) ?_
          refine cx_po (pc_q := 155) (c := 6) (q := 14) (qi := (14 : Int)) (z := r562) rfl rfl (by decide) (by decide) rfl rfl rfl (by decide) rfl ho603.1 ho603.2 rfl ?_
          obtain ⟨F616, eF616⟩ : ∃ q, q = uF F561 (tp) (14 : Int) (r562) := ⟨_, rfl⟩
          rw [← eF616]
          have hC617 : HC 0 m560 tg560 ln560 F616 := by rw [eF616]; exact HC_fr (c := 6) (q := 14) (by decide) hC564 ho603.2 (by decide) rfl (Or.inr ⟨b566.1, b566.2⟩) ⟨fun w => absurd w (by decide), fun w => absurd w (by decide)⟩
          have hM618 : Fq 0 [(7, 15), (9, 2), (9, 3), (10, 0), (10, 1), (10, 2), (10, 8), (11, 8), (11, 12), (11, 13), (11, 14), (11, 15), (11, 16), (11, 17), (11, 18)] m tg F F616 := by rw [eF616]; exact Fq_x hM593 (Or.inr (by omega))
          have c619 : NP m560 tg560 F616 := by rw [eF616]; exact NP_nm hC564 c581 ho603.2 (Or.inl ⟨rfl, (by rw [show F561 (tp) (14 : Int) = Fx (tp) (14 : Int) from (show F561 (tp) (14 : Int) = Fx (tp) (14 : Int) from hM565 _ _ ho458.1 (own_z ho458.1) (by rw [ho458.2]; rfl))]; omega), by omega⟩)
          refine jx_ld (pc_q := 156) (l_q := L606) (st_q := [rv (me)]) rfl (jl_rvn g607) ?_
          refine jx_ld (pc_q := 158) (l_q := L606) (st_q := [rv (r562), rv (me)]) rfl (jl_rv g613) ?_
          have q620 : F616 (me) (2 : Int) = tp := (((show F616 (me) (2 : Int) = F561 (me) (2 : Int) from by rw [eF616]; exact uF_j (by decide)).trans (show F561 (me) (2 : Int) = Fx (me) (2 : Int) from hM565 _ _ ho2.1 (own_z ho2.1) (by rw [ho2.2]; rfl))).trans gv_tp)
          refine cx_vi (c := 8) (a := me) (st := []) (as := [rv (r562)]) rfl rfl rfl ho598.1 ho598.2 (by decide) rfl ⟨rfl, rfl, (Nat.le_of_ble_eq_true rfl)⟩ rfl (k_LParser_show (dd := d) (R := R) (m := m560) (tg := tg560) (ln := ln560) (F := F616) (me := me) (nm := r562) (hd := by omega) (hC := hC617) (o_me := ho598.1) (t_me := ho598.2) (o_nm := b566.1) (t_nm := b566.2) (sc := sc) (pg := pg) (o_sc := ho601.1) (t_sc := ho601.2) (e_sc := (((show F616 (me) (1 : Int) = F561 (me) (1 : Int) from by rw [eF616]; exact uF_j (by decide)).trans ((show F561 (me) (1 : Int) = Fx (me) (1 : Int) from hM565 _ _ ho2.1 (own_z ho2.1) (by rw [ho2.2]; rfl)).trans (show Fx (me) (1 : Int) = F (me) (1 : Int) from hMx _ _ o_me (own_z o_me) (by rw [t_me]; rfl)))).trans e_sc)) (o_pg := ho602.1) (t_pg := ho602.2) (e_pg := (((show F616 (me) (0 : Int) = F561 (me) (0 : Int) from by rw [eF616]; exact uF_j (by decide)).trans ((show F561 (me) (0 : Int) = Fx (me) (0 : Int) from hM565 _ _ ho2.1 (own_z ho2.1) (by rw [ho2.2]; rfl)).trans (show Fx (me) (0 : Int) = F (me) (0 : Int) from hMx _ _ o_me (own_z o_me) (by rw [t_me]; rfl)))).trans e_pg)) (p_0 := by omega) (c_NP := c619)) (fun o V_q hq => ?_)
          obtain ⟨F621, rfl, rfl, hC622, hM623, p624, c625, c626, -⟩ := hq
          have hM627 : Fq 0 [(7, 15), (9, 2), (9, 3), (10, 0), (10, 1), (10, 2), (10, 8), (11, 8), (11, 12), (11, 13), (11, 14), (11, 15), (11, 16), (11, 17), (11, 18)] m tg F F621 := Fq_t (ln := ln) (ln1 := ln560) hM618 hX604 hM623 (by decide) (Or.inl rfl)
          refine Or.inl ⟨rfl, ?_⟩
          refine jx_ld (pc_q := 162) (l_q := L606) (st_q := [rv (me)]) rfl (jl_rvn g607) ?_
          refine cx_gr (pc_q := 165) (c := 8) (q := 1) (v := sc) rfl rfl (by decide) (by decide) rfl rfl ho598.1 ho598.2 (((show F621 (me) (1 : Int) = F616 (me) (1 : Int) from hM623 _ _ ho598.1 (own_z ho598.1) (by rw [ho598.2]; rfl)).trans ((show F616 (me) (1 : Int) = F561 (me) (1 : Int) from by rw [eF616]; exact uF_j (by decide)).trans ((show F561 (me) (1 : Int) = Fx (me) (1 : Int) from hM565 _ _ ho2.1 (own_z ho2.1) (by rw [ho2.2]; rfl)).trans (show Fx (me) (1 : Int) = F (me) (1 : Int) from hMx _ _ o_me (own_z o_me) (by rw [t_me]; rfl))))).trans e_sc) ?_
          have q628 : F621 (sc) (8 : Int) = Fx (sc) (8 : Int) := ((show F621 (sc) (8 : Int) = F616 (sc) (8 : Int) from hM623 _ _ ho601.1 (own_z ho601.1) (by rw [ho601.2]; rfl)).trans ((show F616 (sc) (8 : Int) = F561 (sc) (8 : Int) from by rw [eF616]; exact uF_j (by decide)).trans (show F561 (sc) (8 : Int) = Fx (sc) (8 : Int) from hM565 _ _ ho3.1 (own_z ho3.1) (by rw [ho3.2]; rfl))))
          have q629 : F621 (sc) (15 : Int) = Fx (sc) (15 : Int) := ((show F621 (sc) (15 : Int) = F616 (sc) (15 : Int) from hM623 _ _ ho601.1 (own_z ho601.1) (by rw [ho601.2]; rfl)).trans ((show F616 (sc) (15 : Int) = F561 (sc) (15 : Int) from by rw [eF616]; exact uF_j (by decide)).trans (show F561 (sc) (15 : Int) = Fx (sc) (15 : Int) from hM565 _ _ ho3.1 (own_z ho3.1) (by rw [ho3.2]; rfl))))
          have q630 : tz (F621 (sc) (15 : Int)) = tz (Fx (sc) (15 : Int)) := by rw [q629]
          have q631 := tz_b (Fx (sc) (15 : Int))
          have q632 : F621 (sc) (7 : Int) = F (sc) (7 : Int) := ((show F621 (sc) (7 : Int) = F616 (sc) (7 : Int) from hM623 _ _ ho601.1 (own_z ho601.1) (by rw [ho601.2]; rfl)).trans ((show F616 (sc) (7 : Int) = F561 (sc) (7 : Int) from by rw [eF616]; exact uF_j (by decide)).trans ((show F561 (sc) (7 : Int) = Fx (sc) (7 : Int) from hM565 _ _ ho3.1 (own_z ho3.1) (by rw [ho3.2]; rfl)).trans (show Fx (sc) (7 : Int) = F (sc) (7 : Int) from hMx _ _ o_sc (own_z o_sc) (by rw [t_sc]; rfl)))))
          have q633 : F621 (sc) (14 : Int) = Fx (sc) (14 : Int) := ((show F621 (sc) (14 : Int) = F616 (sc) (14 : Int) from hM623 _ _ ho601.1 (own_z ho601.1) (by rw [ho601.2]; rfl)).trans ((show F616 (sc) (14 : Int) = F561 (sc) (14 : Int) from by rw [eF616]; exact uF_a (fun w => by have q1 := ho601.2; have q2 := ho603.2; rw [w, q2] at q1; exact absurd q1 (by decide))).trans (show F561 (sc) (14 : Int) = Fx (sc) (14 : Int) from hM565 _ _ ho3.1 (own_z ho3.1) (by rw [ho3.2]; rfl))))
          have q634 : lz (F621 (sc) (14 : Int)) = lz (Fx (sc) (14 : Int)) := by rw [q633]
          have q635 := lz_b (Fx (sc) (14 : Int))
          refine cx_vi (c := 10) (a := sc) (st := []) (as := []) rfl rfl rfl ho601.1 ho601.2 (by decide) rfl ⟨rfl, rfl, (Nat.le_of_ble_eq_true rfl)⟩ rfl (k_LScanner_next (dd := d) (R := R) (m := m560) (tg := tg560) (ln := ln560) (F := F621) (me := sc) (hd := by omega) (hC := hC622) (o_me := ho601.1) (t_me := ho601.2) (p_0 := by omega) (p_1 := by omega)) (fun o V_q hq => ?_)
          obtain ⟨F636, rfl, rfl, hC637, hM638, p639, p640, p641, -⟩ := hq
          have hM642 : Fq 0 [(7, 15), (9, 2), (9, 3), (10, 0), (10, 1), (10, 2), (10, 8), (11, 8), (11, 12), (11, 13), (11, 14), (11, 15), (11, 16), (11, 17), (11, 18)] m tg F F636 := Fq_t (ln := ln) (ln1 := ln560) hM627 hX604 hM638 (by decide) (Or.inl rfl)
          have c643 : NP m560 tg560 F636 := NP_q hC622 c625 hM638 rfl rfl
          refine Or.inl ⟨rfl, ?_⟩
          refine jx_ld (pc_q := 169) (l_q := L606) (st_q := [rv (me)]) rfl (jl_rvn g607) ?_
          refine cx_gr (pc_q := 172) (c := 8) (q := 1) (v := sc) rfl rfl (by decide) (by decide) rfl rfl ho598.1 ho598.2 (((show F636 (me) (1 : Int) = F621 (me) (1 : Int) from hM638 _ _ ho598.1 (own_z ho598.1) (by rw [ho598.2]; rfl)).trans ((show F621 (me) (1 : Int) = F616 (me) (1 : Int) from hM623 _ _ ho598.1 (own_z ho598.1) (by rw [ho598.2]; rfl)).trans ((show F616 (me) (1 : Int) = F561 (me) (1 : Int) from by rw [eF616]; exact uF_j (by decide)).trans ((show F561 (me) (1 : Int) = Fx (me) (1 : Int) from hM565 _ _ ho2.1 (own_z ho2.1) (by rw [ho2.2]; rfl)).trans (show Fx (me) (1 : Int) = F (me) (1 : Int) from hMx _ _ o_me (own_z o_me) (by rw [t_me]; rfl)))))).trans e_sc) ?_
          refine cx_gi (pc_q := 175) (c := 10) (q := 15) (v := F636 (sc) (15 : Int)) rfl rfl (by decide) (by decide) (Or.inl rfl) rfl ho601.1 ho601.2 rfl ?_
          have b644 : (-2147483648 : Int) ≤ F636 (sc) (15 : Int) ∧ F636 (sc) (15 : Int) ≤ 2147483647 := by have z := HC_i (c := 10) (q := 15) hC637 ho601.1 ho601.2 (by decide) rfl; rw [show F636 (sc) ((15 : Nat) : Int) = F636 (sc) (15 : Int) from rfl] at z; exact z
          refine jx_ar (pc_q := 177) (st_q := [.int (i32 (52)), .int (i32 (F636 (sc) (15 : Int)))]) rfl rfl rfl rfl ?_
          refine jx_icmp_eq (pc_q := 180) (tg := 183) rfl rfl rfl (by omega) (by omega) (by decide) (by decide) (fun h645 => ?_) (fun h645 => ?_)
          · have _q := h645
            have t646 : tz (F636 (sc) (15 : Int)) = 1 := tz_p (by omega)
            refine jx_ld (pc_q := 184) (l_q := L606) (st_q := [rv (me)]) rfl (jl_rvn g607) ?_
            refine cx_gr (pc_q := 187) (c := 8) (q := 1) (v := sc) rfl rfl (by decide) (by decide) rfl rfl ho598.1 ho598.2 (((show F636 (me) (1 : Int) = F621 (me) (1 : Int) from hM638 _ _ ho598.1 (own_z ho598.1) (by rw [ho598.2]; rfl)).trans ((show F621 (me) (1 : Int) = F616 (me) (1 : Int) from hM623 _ _ ho598.1 (own_z ho598.1) (by rw [ho598.2]; rfl)).trans ((show F616 (me) (1 : Int) = F561 (me) (1 : Int) from by rw [eF616]; exact uF_j (by decide)).trans ((show F561 (me) (1 : Int) = Fx (me) (1 : Int) from hM565 _ _ ho2.1 (own_z ho2.1) (by rw [ho2.2]; rfl)).trans (show Fx (me) (1 : Int) = F (me) (1 : Int) from hMx _ _ o_me (own_z o_me) (by rw [t_me]; rfl)))))).trans e_sc) ?_
            have q647 := tz_b (F636 (sc) (15 : Int))
            have q648 : F636 (sc) (7 : Int) = F (sc) (7 : Int) := ((show F636 (sc) (7 : Int) = F621 (sc) (7 : Int) from hM638 _ _ ho601.1 (own_z ho601.1) (by rw [ho601.2]; rfl)).trans q632)
            have q649 := lz_b (F636 (sc) (14 : Int))
            refine cx_vi (c := 10) (a := sc) (st := []) (as := []) rfl rfl rfl ho601.1 ho601.2 (by decide) rfl ⟨rfl, rfl, (Nat.le_of_ble_eq_true rfl)⟩ rfl (k_LScanner_next (dd := d) (R := R) (m := m560) (tg := tg560) (ln := ln560) (F := F636) (me := sc) (hd := by omega) (hC := hC637) (o_me := ho601.1) (t_me := ho601.2) (p_0 := by omega) (p_1 := by omega)) (fun o V_q hq => ?_)
            obtain ⟨F650, rfl, rfl, hC651, hM652, p653, p654, p655, -⟩ := hq
            have hM656 : Fq 0 [(7, 15), (9, 2), (9, 3), (10, 0), (10, 1), (10, 2), (10, 8), (11, 8), (11, 12), (11, 13), (11, 14), (11, 15), (11, 16), (11, 17), (11, 18)] m tg F F650 := Fq_t (ln := ln) (ln1 := ln560) hM642 hX604 hM652 (by decide) (Or.inl rfl)
            have c657 : NP m560 tg560 F650 := NP_q hC637 c643 hM652 rfl rfl
            refine Or.inl ⟨rfl, ?_⟩
            refine jx_inc (pc_q := 193) (l_q := jSto1 L606 7 (.int (i32 (k + (1))))) (x := k) rfl g610 (by decide) rfl rfl ?_
            obtain ⟨L658, eL658⟩ : ∃ q : jL, q = jSto1 L606 7 (.int (i32 ((k + (1))))) := ⟨_, rfl⟩
            rw [← eL658]
            have g659 : jGet L658 0 = some (rv (me)) := eL658 ▸ jg_nr (by decide) g607
            have g660 : jGet L658 1 = some (.int (i32 (sz))) := eL658 ▸ jg_ne (by decide) g608 rfl
            have g661 : jGet L658 4 = some (.int (i32 (kd))) := eL658 ▸ jg_ne (by decide) g609 rfl
            have g662 : jGet L658 5 = some (rv (bf)) := eL658 ▸ jg_nr (by decide) g611
            have g663 : jGet L658 6 = some (rv (fi)) := eL658 ▸ jg_nr (by decide) g612
            have g664 : jGet L658 8 = some (rv (r562)) := eL658 ▸ jg_nr (by decide) g613
            have g665 : jGet L658 7 = some (.int (i32 ((k + (1))))) := eL658 ▸ jg_eq
            clear eL658
            refine jx_go (tg := 111) rfl rfl ?_
            have q666 := tz_b (F650 (sc) (15 : Int))
            have q667 := lz_b (F650 (sc) (14 : Int))
            have q668 : F650 (pg) (9 : Int) = F (pg) (9 : Int) := ((show F650 (pg) (9 : Int) = F636 (pg) (9 : Int) from hM652 _ _ ho602.1 (own_z ho602.1) (by rw [ho602.2]; rfl)).trans ((show F636 (pg) (9 : Int) = F621 (pg) (9 : Int) from hM638 _ _ ho602.1 (own_z ho602.1) (by rw [ho602.2]; rfl)).trans ((show F621 (pg) (9 : Int) = F616 (pg) (9 : Int) from hM623 _ _ ho602.1 (own_z ho602.1) (by rw [ho602.2]; rfl)).trans ((show F616 (pg) (9 : Int) = F561 (pg) (9 : Int) from by rw [eF616]; exact uF_j (by decide)).trans ((show F561 (pg) (9 : Int) = Fx (pg) (9 : Int) from hM565 _ _ ho4.1 (own_z ho4.1) (by rw [ho4.2]; rfl)).trans (show Fx (pg) (9 : Int) = F (pg) (9 : Int) from hMx _ _ o_pg (own_z o_pg) (by rw [t_pg]; rfl)))))))
            have q669 : F650 (r562) (14 : Int) = F561 (r562) (14 : Int) := ((show F650 (r562) (14 : Int) = F636 (r562) (14 : Int) from hM652 _ _ b566.1 (own_z b566.1) (by rw [b566.2]; rfl)).trans ((show F636 (r562) (14 : Int) = F621 (r562) (14 : Int) from hM638 _ _ b566.1 (own_z b566.1) (by rw [b566.2]; rfl)).trans ((show F621 (r562) (14 : Int) = F616 (r562) (14 : Int) from hM623 _ _ b566.1 (own_z b566.1) (by rw [b566.2]; rfl)).trans (show F616 (r562) (14 : Int) = F561 (r562) (14 : Int) from by rw [eF616]; exact uF_a (by omega)))))
            exact ih _ (by omega) L658 m560 tg560 ln560 F650 (sz) (kd) ((k + (1))) (bf) (fi) (r562) rfl g659 g660 g661 g665 g662 g663 hX604 hC651 hM656 (by omega) (by omega) (by omega) y599 (Or.inr ⟨ho615.1, ho615.2⟩) (by omega) (by omega) (by omega) (by omega) (by omega) (by omega) (by omega) (by omega) (by omega) (by omega) (by omega) c657 c605 (((show F650 (me) (2 : Int) = F636 (me) (2 : Int) from hM652 _ _ ho598.1 (own_z ho598.1) (by rw [ho598.2]; rfl)).trans (show F636 (me) (2 : Int) = F621 (me) (2 : Int) from hM638 _ _ ho598.1 (own_z ho598.1) (by rw [ho598.2]; rfl))).trans p624) (Or.inr ⟨b566.1, b566.2⟩)
          · have _q := h645
            refine jx_go (tg := 196) rfl rfl ?_
            refine jx_ld (pc_q := 197) (l_q := L606) (st_q := [rv (me)]) rfl (jl_rvn g607) ?_
            refine jx_ar (pc_q := 199) (st_q := [.int (i32 (53)), rv (me)]) rfl rfl rfl rfl ?_
            have q670 := tz_b (F636 (sc) (15 : Int))
            have q671 : F636 (sc) (7 : Int) = F (sc) (7 : Int) := ((show F636 (sc) (7 : Int) = F621 (sc) (7 : Int) from hM638 _ _ ho601.1 (own_z ho601.1) (by rw [ho601.2]; rfl)).trans q632)
            have q672 := lz_b (F636 (sc) (14 : Int))
            have q673 : F636 (pg) (9 : Int) = F (pg) (9 : Int) := ((show F636 (pg) (9 : Int) = F621 (pg) (9 : Int) from hM638 _ _ ho602.1 (own_z ho602.1) (by rw [ho602.2]; rfl)).trans ((show F621 (pg) (9 : Int) = F616 (pg) (9 : Int) from hM623 _ _ ho602.1 (own_z ho602.1) (by rw [ho602.2]; rfl)).trans ((show F616 (pg) (9 : Int) = F561 (pg) (9 : Int) from by rw [eF616]; exact uF_j (by decide)).trans ((show F561 (pg) (9 : Int) = Fx (pg) (9 : Int) from hM565 _ _ ho4.1 (own_z ho4.1) (by rw [ho4.2]; rfl)).trans (show Fx (pg) (9 : Int) = F (pg) (9 : Int) from hMx _ _ o_pg (own_z o_pg) (by rw [t_pg]; rfl))))))
            refine cx_vi (c := 8) (a := me) (st := []) (as := [.int (i32 (53))]) rfl rfl rfl ho598.1 ho598.2 (by decide) rfl ⟨rfl, rfl, (Nat.le_of_ble_eq_true rfl)⟩ rfl (k_LParser_expect (dd := d) (R := R) (m := m560) (tg := tg560) (ln := ln560) (F := F636) (me := me) (tk := 53) (hd := by omega) (hC := hC637) (o_me := ho598.1) (t_me := ho598.2) (h_tk := by omega) (sc := sc) (pg := pg) (o_sc := ho601.1) (t_sc := ho601.2) (e_sc := (((show F636 (me) (1 : Int) = F621 (me) (1 : Int) from hM638 _ _ ho598.1 (own_z ho598.1) (by rw [ho598.2]; rfl)).trans ((show F621 (me) (1 : Int) = F616 (me) (1 : Int) from hM623 _ _ ho598.1 (own_z ho598.1) (by rw [ho598.2]; rfl)).trans ((show F616 (me) (1 : Int) = F561 (me) (1 : Int) from by rw [eF616]; exact uF_j (by decide)).trans ((show F561 (me) (1 : Int) = Fx (me) (1 : Int) from hM565 _ _ ho2.1 (own_z ho2.1) (by rw [ho2.2]; rfl)).trans (show Fx (me) (1 : Int) = F (me) (1 : Int) from hMx _ _ o_me (own_z o_me) (by rw [t_me]; rfl)))))).trans e_sc)) (o_pg := ho602.1) (t_pg := ho602.2) (e_pg := (((show F636 (me) (0 : Int) = F621 (me) (0 : Int) from hM638 _ _ ho598.1 (own_z ho598.1) (by rw [ho598.2]; rfl)).trans ((show F621 (me) (0 : Int) = F616 (me) (0 : Int) from hM623 _ _ ho598.1 (own_z ho598.1) (by rw [ho598.2]; rfl)).trans ((show F616 (me) (0 : Int) = F561 (me) (0 : Int) from by rw [eF616]; exact uF_j (by decide)).trans ((show F561 (me) (0 : Int) = Fx (me) (0 : Int) from hM565 _ _ ho2.1 (own_z ho2.1) (by rw [ho2.2]; rfl)).trans (show Fx (me) (0 : Int) = F (me) (0 : Int) from hMx _ _ o_me (own_z o_me) (by rw [t_me]; rfl)))))).trans e_pg)) (p_0 := by omega) (p_1 := by omega) (p_2 := by omega) (p_3 := by omega) (c_NP := c643)) (fun o V_q hq => ?_)
            obtain ⟨m674, tg674, ln674, F675, rfl, rfl, hx676, hC677, hM678, p679, p680, p681, p682, p683, p684, p685, c686, c687, -⟩ | ⟨m688, tg688, ln688, F688, x688, rfl, rfl, hx688, hC688, hM688, ho688, ht688, p689, p690, p691, p692, c693, c694, -⟩ := hq
            rotate_left
            ·
              have c695 : NM m m688 tg688 := NM_t c605 hx688 c694
              have lm696 := hx688.1
              refine Or.inr (Or.inr (Or.inr ⟨_, _, rfl, cx_exc (c := 15) ho688 ht688 (by decide), rfl, ?_⟩))
              have q697 : F636 (sc) (7 : Int) = F (sc) (7 : Int) := q671
              exact Or.inr ⟨m688, tg688, ln688, F688, x688, rfl, rfl, Ex_t hX604 hx688, hC688, Fq_t (ln := ln) (ln1 := ln560) hM642 hX604 hM688 (by decide) (Or.inl rfl), (And.intro ho688 ht688).1, (And.intro ho688 ht688).2, by omega, by omega, by omega, by omega, c693, c695, trivial⟩
            have hM698 : Fq 0 [(7, 15), (9, 2), (9, 3), (10, 0), (10, 1), (10, 2), (10, 8), (11, 8), (11, 12), (11, 13), (11, 14), (11, 15), (11, 16), (11, 17), (11, 18)] m tg F F675 := Fq_t (ln := ln) (ln1 := ln560) hM642 hX604 hM678 (by decide) (Or.inl rfl)
            have lm699 := hx676.1
            have lt700 : bf < 64 + (m560 : Int) := by rcases y599 with w | w; (· omega); exact w.1.2.1
            have lt701 : fi < 64 + (m560 : Int) := ho615.1.2.1
            have lt702 : r562 < 64 + (m560 : Int) := b566.1.2.1
            have lt703 : tp < 64 + (m560 : Int) := ho603.1.2.1
            have ho704 : own m674 (me) ∧ tg674 (me) = 9 := Ex_o hx676 ⟨ho598.1, ho598.2⟩
            have y705 : bf = 0 ∨ (own m674 (bf) ∧ tg674 (bf) = 7) := Ex_z hx676 y599
            have ho706 : own m674 (fi) ∧ tg674 (fi) = 7 := Ex_o hx676 ⟨ho615.1, ho615.2⟩
            have ho707 : own m674 (r562) ∧ tg674 (r562) = 7 := Ex_o hx676 ⟨b566.1, b566.2⟩
            have ho708 : own m674 (sc) ∧ tg674 (sc) = 11 := Ex_o hx676 ⟨ho601.1, ho601.2⟩
            have ho709 : own m674 (pg) ∧ tg674 (pg) = 10 := Ex_o hx676 ⟨ho602.1, ho602.2⟩
            have ho710 : own m674 (tp) ∧ tg674 (tp) = 7 := Ex_o hx676 ⟨ho603.1, ho603.2⟩
            have hX711 := Ex_t hX604 hx676
            have c712 : NM m m674 tg674 := NM_t c605 hx676 c687
            refine Or.inl ⟨rfl, ?_⟩
            refine jx_ld (pc_q := 203) (l_q := L606) (st_q := [rv (me)]) rfl (jl_rvn g607) ?_
            have q713 := tz_b (F675 (sc) (15 : Int))
            have q714 : F675 (sc) (7 : Int) = F (sc) (7 : Int) := ((show F675 (sc) (7 : Int) = F636 (sc) (7 : Int) from hM678 _ _ ho601.1 (own_z ho601.1) (by rw [ho601.2]; rfl)).trans q671)
            have q715 := lz_b (F675 (sc) (14 : Int))
            have q716 : F675 (pg) (9 : Int) = F (pg) (9 : Int) := ((show F675 (pg) (9 : Int) = F636 (pg) (9 : Int) from hM678 _ _ ho602.1 (own_z ho602.1) (by rw [ho602.2]; rfl)).trans q673)
            refine cx_vi (c := 8) (a := me) (st := []) (as := []) rfl rfl rfl ho704.1 ho704.2 (by decide) rfl ⟨rfl, rfl, (Nat.le_of_ble_eq_true rfl)⟩ rfl (k_LParser_endLine (dd := d) (R := R) (m := m674) (tg := tg674) (ln := ln674) (F := F675) (me := me) (hd := by omega) (hC := hC677) (o_me := ho704.1) (t_me := ho704.2) (sc := sc) (pg := pg) (o_sc := ho708.1) (t_sc := ho708.2) (e_sc := (((show F675 (me) (1 : Int) = F636 (me) (1 : Int) from hM678 _ _ ho598.1 (own_z ho598.1) (by rw [ho598.2]; rfl)).trans ((show F636 (me) (1 : Int) = F621 (me) (1 : Int) from hM638 _ _ ho598.1 (own_z ho598.1) (by rw [ho598.2]; rfl)).trans ((show F621 (me) (1 : Int) = F616 (me) (1 : Int) from hM623 _ _ ho598.1 (own_z ho598.1) (by rw [ho598.2]; rfl)).trans ((show F616 (me) (1 : Int) = F561 (me) (1 : Int) from by rw [eF616]; exact uF_j (by decide)).trans ((show F561 (me) (1 : Int) = Fx (me) (1 : Int) from hM565 _ _ ho2.1 (own_z ho2.1) (by rw [ho2.2]; rfl)).trans (show Fx (me) (1 : Int) = F (me) (1 : Int) from hMx _ _ o_me (own_z o_me) (by rw [t_me]; rfl))))))).trans e_sc)) (o_pg := ho709.1) (t_pg := ho709.2) (e_pg := (((show F675 (me) (0 : Int) = F636 (me) (0 : Int) from hM678 _ _ ho598.1 (own_z ho598.1) (by rw [ho598.2]; rfl)).trans ((show F636 (me) (0 : Int) = F621 (me) (0 : Int) from hM638 _ _ ho598.1 (own_z ho598.1) (by rw [ho598.2]; rfl)).trans ((show F621 (me) (0 : Int) = F616 (me) (0 : Int) from hM623 _ _ ho598.1 (own_z ho598.1) (by rw [ho598.2]; rfl)).trans ((show F616 (me) (0 : Int) = F561 (me) (0 : Int) from by rw [eF616]; exact uF_j (by decide)).trans ((show F561 (me) (0 : Int) = Fx (me) (0 : Int) from hM565 _ _ ho2.1 (own_z ho2.1) (by rw [ho2.2]; rfl)).trans (show Fx (me) (0 : Int) = F (me) (0 : Int) from hMx _ _ o_me (own_z o_me) (by rw [t_me]; rfl))))))).trans e_pg)) (p_0 := by omega) (p_1 := by omega) (p_2 := by omega) (c_NP := c686)) (fun o V_q hq => ?_)
            obtain ⟨m717, tg717, ln717, F718, rfl, rfl, hx719, hC720, hM721, p722, p723, p724, p725, p726, p727, p728, c729, c730, -⟩ | ⟨m731, tg731, ln731, F731, x731, rfl, rfl, hx731, hC731, hM731, ho731, ht731, p732, p733, p734, p735, c736, c737, -⟩ := hq
            rotate_left
            ·
              have c738 : NM m m731 tg731 := NM_t c712 hx731 c737
              have lm739 := hx731.1
              refine Or.inr (Or.inr (Or.inr ⟨_, _, rfl, cx_exc (c := 15) ho731 ht731 (by decide), rfl, ?_⟩))
              have q740 : F675 (sc) (7 : Int) = F (sc) (7 : Int) := q714
              exact Or.inr ⟨m731, tg731, ln731, F731, x731, rfl, rfl, Ex_t hX711 hx731, hC731, Fq_t (ln := ln) (ln1 := ln674) hM698 hX711 hM731 (by decide) (Or.inl rfl), (And.intro ho731 ht731).1, (And.intro ho731 ht731).2, by omega, by omega, by omega, by omega, c736, c738, trivial⟩
            have hM741 : Fq 0 [(7, 15), (9, 2), (9, 3), (10, 0), (10, 1), (10, 2), (10, 8), (11, 8), (11, 12), (11, 13), (11, 14), (11, 15), (11, 16), (11, 17), (11, 18)] m tg F F718 := Fq_t (ln := ln) (ln1 := ln674) hM698 hX711 hM721 (by decide) (Or.inl rfl)
            have lm742 := hx719.1
            have lt743 : bf < 64 + (m674 : Int) := by rcases y705 with w | w; (· omega); exact w.1.2.1
            have lt744 : fi < 64 + (m674 : Int) := ho706.1.2.1
            have lt745 : r562 < 64 + (m674 : Int) := ho707.1.2.1
            have lt746 : tp < 64 + (m674 : Int) := ho710.1.2.1
            have ho747 : own m717 (me) ∧ tg717 (me) = 9 := Ex_o hx719 ⟨ho704.1, ho704.2⟩
            have y748 : bf = 0 ∨ (own m717 (bf) ∧ tg717 (bf) = 7) := Ex_z hx719 y705
            have ho749 : own m717 (fi) ∧ tg717 (fi) = 7 := Ex_o hx719 ⟨ho706.1, ho706.2⟩
            have ho750 : own m717 (r562) ∧ tg717 (r562) = 7 := Ex_o hx719 ⟨ho707.1, ho707.2⟩
            have ho751 : own m717 (sc) ∧ tg717 (sc) = 11 := Ex_o hx719 ⟨ho708.1, ho708.2⟩
            have ho752 : own m717 (pg) ∧ tg717 (pg) = 10 := Ex_o hx719 ⟨ho709.1, ho709.2⟩
            have ho753 : own m717 (tp) ∧ tg717 (tp) = 7 := Ex_o hx719 ⟨ho710.1, ho710.2⟩
            have hX754 := Ex_t hX711 hx719
            have c755 : NM m m717 tg717 := NM_t c712 hx719 c730
            refine Or.inl ⟨rfl, ?_⟩
            refine jx_ld (pc_q := 208) (l_q := L606) (st_q := [rv (fi)]) rfl (jl_rv g612) ?_
            refine jx_rt (v := some (rv (fi))) rfl rfl rfl rfl rfl jr_are ?_
            have q756 : F718 (sc) (7 : Int) = F (sc) (7 : Int) := ((show F718 (sc) (7 : Int) = F675 (sc) (7 : Int) from hM721 _ _ ho708.1 (own_z ho708.1) (by rw [ho708.2]; rfl)).trans q714)
            have q757 : F718 (pg) (9 : Int) = F (pg) (9 : Int) := ((show F718 (pg) (9 : Int) = F675 (pg) (9 : Int) from hM721 _ _ ho709.1 (own_z ho709.1) (by rw [ho709.2]; rfl)).trans q716)
            have q758 := tz_b (F718 (sc) (15 : Int))
            have q759 := lz_b (F718 (sc) (14 : Int))
            have q760 : F718 (pg) (9 : Int) = F (pg) (9 : Int) := q757
            have q761 : F718 (me) (2 : Int) = r562 := (((show F718 (me) (2 : Int) = F675 (me) (2 : Int) from hM721 _ _ ho704.1 (own_z ho704.1) (by rw [ho704.2]; rfl)).trans ((show F675 (me) (2 : Int) = F636 (me) (2 : Int) from hM678 _ _ ho598.1 (own_z ho598.1) (by rw [ho598.2]; rfl)).trans (show F636 (me) (2 : Int) = F621 (me) (2 : Int) from hM638 _ _ ho598.1 (own_z ho598.1) (by rw [ho598.2]; rfl)))).trans p624)
            exact Or.inl ⟨m717, tg717, ln717, F718, (fi), rfl, rfl, hX754, hC720, hM741, ⟨ho749.1, ho749.2⟩, by omega, by omega, by omega, by omega, by omega, by omega, by omega, by omega, by rw [show F718 (me) (2 : Int) = r562 from q761, show F718 (r562) (14 : Int) = F561 (r562) (14 : Int) from ((show F718 (r562) (14 : Int) = F675 (r562) (14 : Int) from hM721 _ _ ho707.1 (own_z ho707.1) (by rw [ho707.2]; rfl)).trans ((show F675 (r562) (14 : Int) = F636 (r562) (14 : Int) from hM678 _ _ b566.1 (own_z b566.1) (by rw [b566.2]; rfl)).trans ((show F636 (r562) (14 : Int) = F621 (r562) (14 : Int) from hM638 _ _ b566.1 (own_z b566.1) (by rw [b566.2]; rfl)).trans ((show F621 (r562) (14 : Int) = F616 (r562) (14 : Int) from hM623 _ _ b566.1 (own_z b566.1) (by rw [b566.2]; rfl)).trans (show F616 (r562) (14 : Int) = F561 (r562) (14 : Int) from by rw [eF616]; exact uF_a (by omega))))))]; omega, c729, c755, trivial⟩
        · have _q := h614
          refine jx_ld (pc_q := 141) (l_q := L606) (st_q := [rv (r562)]) rfl (jl_rv g613) ?_
          refine jx_ld (pc_q := 143) (l_q := jSto1 L606 6 (rv (r562))) (st_q := []) rfl (js_rv (by decide)) ?_
          obtain ⟨L762, eL762⟩ : ∃ q : jL, q = jSto1 L606 6 (rv (r562)) := ⟨_, rfl⟩
          rw [← eL762]
          have g763 : jGet L762 0 = some (rv (me)) := eL762 ▸ jg_nr (by decide) g607
          have g764 : jGet L762 1 = some (.int (i32 (sz))) := eL762 ▸ jg_ne (by decide) g608 rfl
          have g765 : jGet L762 4 = some (.int (i32 (kd))) := eL762 ▸ jg_ne (by decide) g609 rfl
          have g766 : jGet L762 7 = some (.int (i32 (k))) := eL762 ▸ jg_ne (by decide) g610 rfl
          have g767 : jGet L762 5 = some (rv (bf)) := eL762 ▸ jg_nr (by decide) g611
          have g768 : jGet L762 8 = some (rv (r562)) := eL762 ▸ jg_nr (by decide) g613
          have g769 : jGet L762 6 = some (rv (r562)) := eL762 ▸ jg_eq
          clear eL762
          refine jx_go (tg := 155) rfl rfl ?_
          refine jx_ld (pc_q := 156) (l_q := L762) (st_q := [rv (me)]) rfl (jl_rvn g763) ?_
          refine jx_ld (pc_q := 158) (l_q := L762) (st_q := [rv (r562), rv (me)]) rfl (jl_rv g768) ?_
          have q770 : F561 (me) (2 : Int) = tp := ((show F561 (me) (2 : Int) = Fx (me) (2 : Int) from hM565 _ _ ho2.1 (own_z ho2.1) (by rw [ho2.2]; rfl)).trans gv_tp)
          refine cx_vi (c := 8) (a := me) (st := []) (as := [rv (r562)]) rfl rfl rfl ho598.1 ho598.2 (by decide) rfl ⟨rfl, rfl, (Nat.le_of_ble_eq_true rfl)⟩ rfl (k_LParser_show (dd := d) (R := R) (m := m560) (tg := tg560) (ln := ln560) (F := F561) (me := me) (nm := r562) (hd := by omega) (hC := hC564) (o_me := ho598.1) (t_me := ho598.2) (o_nm := b566.1) (t_nm := b566.2) (sc := sc) (pg := pg) (o_sc := ho601.1) (t_sc := ho601.2) (e_sc := (((show F561 (me) (1 : Int) = Fx (me) (1 : Int) from hM565 _ _ ho2.1 (own_z ho2.1) (by rw [ho2.2]; rfl)).trans (show Fx (me) (1 : Int) = F (me) (1 : Int) from hMx _ _ o_me (own_z o_me) (by rw [t_me]; rfl))).trans e_sc)) (o_pg := ho602.1) (t_pg := ho602.2) (e_pg := (((show F561 (me) (0 : Int) = Fx (me) (0 : Int) from hM565 _ _ ho2.1 (own_z ho2.1) (by rw [ho2.2]; rfl)).trans (show Fx (me) (0 : Int) = F (me) (0 : Int) from hMx _ _ o_me (own_z o_me) (by rw [t_me]; rfl))).trans e_pg)) (p_0 := by omega) (c_NP := c581)) (fun o V_q hq => ?_)
          obtain ⟨F771, rfl, rfl, hC772, hM773, p774, c775, c776, -⟩ := hq
          have hM777 : Fq 0 [(7, 15), (9, 2), (9, 3), (10, 0), (10, 1), (10, 2), (10, 8), (11, 8), (11, 12), (11, 13), (11, 14), (11, 15), (11, 16), (11, 17), (11, 18)] m tg F F771 := Fq_t (ln := ln) (ln1 := ln560) hM593 hX604 hM773 (by decide) (Or.inl rfl)
          refine Or.inl ⟨rfl, ?_⟩
          refine jx_ld (pc_q := 162) (l_q := L762) (st_q := [rv (me)]) rfl (jl_rvn g763) ?_
          refine cx_gr (pc_q := 165) (c := 8) (q := 1) (v := sc) rfl rfl (by decide) (by decide) rfl rfl ho598.1 ho598.2 (((show F771 (me) (1 : Int) = F561 (me) (1 : Int) from hM773 _ _ ho598.1 (own_z ho598.1) (by rw [ho598.2]; rfl)).trans ((show F561 (me) (1 : Int) = Fx (me) (1 : Int) from hM565 _ _ ho2.1 (own_z ho2.1) (by rw [ho2.2]; rfl)).trans (show Fx (me) (1 : Int) = F (me) (1 : Int) from hMx _ _ o_me (own_z o_me) (by rw [t_me]; rfl)))).trans e_sc) ?_
          have q778 : F771 (sc) (8 : Int) = Fx (sc) (8 : Int) := ((show F771 (sc) (8 : Int) = F561 (sc) (8 : Int) from hM773 _ _ ho601.1 (own_z ho601.1) (by rw [ho601.2]; rfl)).trans (show F561 (sc) (8 : Int) = Fx (sc) (8 : Int) from hM565 _ _ ho3.1 (own_z ho3.1) (by rw [ho3.2]; rfl)))
          have q779 : F771 (sc) (15 : Int) = Fx (sc) (15 : Int) := ((show F771 (sc) (15 : Int) = F561 (sc) (15 : Int) from hM773 _ _ ho601.1 (own_z ho601.1) (by rw [ho601.2]; rfl)).trans (show F561 (sc) (15 : Int) = Fx (sc) (15 : Int) from hM565 _ _ ho3.1 (own_z ho3.1) (by rw [ho3.2]; rfl)))
          have q780 : tz (F771 (sc) (15 : Int)) = tz (Fx (sc) (15 : Int)) := by rw [q779]
          have q781 := tz_b (Fx (sc) (15 : Int))
          have q782 : F771 (sc) (7 : Int) = F (sc) (7 : Int) := ((show F771 (sc) (7 : Int) = F561 (sc) (7 : Int) from hM773 _ _ ho601.1 (own_z ho601.1) (by rw [ho601.2]; rfl)).trans ((show F561 (sc) (7 : Int) = Fx (sc) (7 : Int) from hM565 _ _ ho3.1 (own_z ho3.1) (by rw [ho3.2]; rfl)).trans (show Fx (sc) (7 : Int) = F (sc) (7 : Int) from hMx _ _ o_sc (own_z o_sc) (by rw [t_sc]; rfl))))
          have q783 : F771 (sc) (14 : Int) = Fx (sc) (14 : Int) := ((show F771 (sc) (14 : Int) = F561 (sc) (14 : Int) from hM773 _ _ ho601.1 (own_z ho601.1) (by rw [ho601.2]; rfl)).trans (show F561 (sc) (14 : Int) = Fx (sc) (14 : Int) from hM565 _ _ ho3.1 (own_z ho3.1) (by rw [ho3.2]; rfl)))
          have q784 : lz (F771 (sc) (14 : Int)) = lz (Fx (sc) (14 : Int)) := by rw [q783]
          have q785 := lz_b (Fx (sc) (14 : Int))
          refine cx_vi (c := 10) (a := sc) (st := []) (as := []) rfl rfl rfl ho601.1 ho601.2 (by decide) rfl ⟨rfl, rfl, (Nat.le_of_ble_eq_true rfl)⟩ rfl (k_LScanner_next (dd := d) (R := R) (m := m560) (tg := tg560) (ln := ln560) (F := F771) (me := sc) (hd := by omega) (hC := hC772) (o_me := ho601.1) (t_me := ho601.2) (p_0 := by omega) (p_1 := by omega)) (fun o V_q hq => ?_)
          obtain ⟨F786, rfl, rfl, hC787, hM788, p789, p790, p791, -⟩ := hq
          have hM792 : Fq 0 [(7, 15), (9, 2), (9, 3), (10, 0), (10, 1), (10, 2), (10, 8), (11, 8), (11, 12), (11, 13), (11, 14), (11, 15), (11, 16), (11, 17), (11, 18)] m tg F F786 := Fq_t (ln := ln) (ln1 := ln560) hM777 hX604 hM788 (by decide) (Or.inl rfl)
          have c793 : NP m560 tg560 F786 := NP_q hC772 c775 hM788 rfl rfl
          refine Or.inl ⟨rfl, ?_⟩
          refine jx_ld (pc_q := 169) (l_q := L762) (st_q := [rv (me)]) rfl (jl_rvn g763) ?_
          refine cx_gr (pc_q := 172) (c := 8) (q := 1) (v := sc) rfl rfl (by decide) (by decide) rfl rfl ho598.1 ho598.2 (((show F786 (me) (1 : Int) = F771 (me) (1 : Int) from hM788 _ _ ho598.1 (own_z ho598.1) (by rw [ho598.2]; rfl)).trans ((show F771 (me) (1 : Int) = F561 (me) (1 : Int) from hM773 _ _ ho598.1 (own_z ho598.1) (by rw [ho598.2]; rfl)).trans ((show F561 (me) (1 : Int) = Fx (me) (1 : Int) from hM565 _ _ ho2.1 (own_z ho2.1) (by rw [ho2.2]; rfl)).trans (show Fx (me) (1 : Int) = F (me) (1 : Int) from hMx _ _ o_me (own_z o_me) (by rw [t_me]; rfl))))).trans e_sc) ?_
          refine cx_gi (pc_q := 175) (c := 10) (q := 15) (v := F786 (sc) (15 : Int)) rfl rfl (by decide) (by decide) (Or.inl rfl) rfl ho601.1 ho601.2 rfl ?_
          have b794 : (-2147483648 : Int) ≤ F786 (sc) (15 : Int) ∧ F786 (sc) (15 : Int) ≤ 2147483647 := by have z := HC_i (c := 10) (q := 15) hC787 ho601.1 ho601.2 (by decide) rfl; rw [show F786 (sc) ((15 : Nat) : Int) = F786 (sc) (15 : Int) from rfl] at z; exact z
          refine jx_ar (pc_q := 177) (st_q := [.int (i32 (52)), .int (i32 (F786 (sc) (15 : Int)))]) rfl rfl rfl rfl ?_
          refine jx_icmp_eq (pc_q := 180) (tg := 183) rfl rfl rfl (by omega) (by omega) (by decide) (by decide) (fun h795 => ?_) (fun h795 => ?_)
          · have _q := h795
            have t796 : tz (F786 (sc) (15 : Int)) = 1 := tz_p (by omega)
            refine jx_ld (pc_q := 184) (l_q := L762) (st_q := [rv (me)]) rfl (jl_rvn g763) ?_
            refine cx_gr (pc_q := 187) (c := 8) (q := 1) (v := sc) rfl rfl (by decide) (by decide) rfl rfl ho598.1 ho598.2 (((show F786 (me) (1 : Int) = F771 (me) (1 : Int) from hM788 _ _ ho598.1 (own_z ho598.1) (by rw [ho598.2]; rfl)).trans ((show F771 (me) (1 : Int) = F561 (me) (1 : Int) from hM773 _ _ ho598.1 (own_z ho598.1) (by rw [ho598.2]; rfl)).trans ((show F561 (me) (1 : Int) = Fx (me) (1 : Int) from hM565 _ _ ho2.1 (own_z ho2.1) (by rw [ho2.2]; rfl)).trans (show Fx (me) (1 : Int) = F (me) (1 : Int) from hMx _ _ o_me (own_z o_me) (by rw [t_me]; rfl))))).trans e_sc) ?_
            have q797 := tz_b (F786 (sc) (15 : Int))
            have q798 : F786 (sc) (7 : Int) = F (sc) (7 : Int) := ((show F786 (sc) (7 : Int) = F771 (sc) (7 : Int) from hM788 _ _ ho601.1 (own_z ho601.1) (by rw [ho601.2]; rfl)).trans q782)
            have q799 := lz_b (F786 (sc) (14 : Int))
            refine cx_vi (c := 10) (a := sc) (st := []) (as := []) rfl rfl rfl ho601.1 ho601.2 (by decide) rfl ⟨rfl, rfl, (Nat.le_of_ble_eq_true rfl)⟩ rfl (k_LScanner_next (dd := d) (R := R) (m := m560) (tg := tg560) (ln := ln560) (F := F786) (me := sc) (hd := by omega) (hC := hC787) (o_me := ho601.1) (t_me := ho601.2) (p_0 := by omega) (p_1 := by omega)) (fun o V_q hq => ?_)
            obtain ⟨F800, rfl, rfl, hC801, hM802, p803, p804, p805, -⟩ := hq
            have hM806 : Fq 0 [(7, 15), (9, 2), (9, 3), (10, 0), (10, 1), (10, 2), (10, 8), (11, 8), (11, 12), (11, 13), (11, 14), (11, 15), (11, 16), (11, 17), (11, 18)] m tg F F800 := Fq_t (ln := ln) (ln1 := ln560) hM792 hX604 hM802 (by decide) (Or.inl rfl)
            have c807 : NP m560 tg560 F800 := NP_q hC787 c793 hM802 rfl rfl
            refine Or.inl ⟨rfl, ?_⟩
            refine jx_inc (pc_q := 193) (l_q := jSto1 L762 7 (.int (i32 (k + (1))))) (x := k) rfl g766 (by decide) rfl rfl ?_
            obtain ⟨L808, eL808⟩ : ∃ q : jL, q = jSto1 L762 7 (.int (i32 ((k + (1))))) := ⟨_, rfl⟩
            rw [← eL808]
            have g809 : jGet L808 0 = some (rv (me)) := eL808 ▸ jg_nr (by decide) g763
            have g810 : jGet L808 1 = some (.int (i32 (sz))) := eL808 ▸ jg_ne (by decide) g764 rfl
            have g811 : jGet L808 4 = some (.int (i32 (kd))) := eL808 ▸ jg_ne (by decide) g765 rfl
            have g812 : jGet L808 5 = some (rv (bf)) := eL808 ▸ jg_nr (by decide) g767
            have g813 : jGet L808 8 = some (rv (r562)) := eL808 ▸ jg_nr (by decide) g768
            have g814 : jGet L808 6 = some (rv (r562)) := eL808 ▸ jg_nr (by decide) g769
            have g815 : jGet L808 7 = some (.int (i32 ((k + (1))))) := eL808 ▸ jg_eq
            clear eL808
            refine jx_go (tg := 111) rfl rfl ?_
            have q816 := tz_b (F800 (sc) (15 : Int))
            have q817 := lz_b (F800 (sc) (14 : Int))
            have q818 : F800 (pg) (9 : Int) = F (pg) (9 : Int) := ((show F800 (pg) (9 : Int) = F786 (pg) (9 : Int) from hM802 _ _ ho602.1 (own_z ho602.1) (by rw [ho602.2]; rfl)).trans ((show F786 (pg) (9 : Int) = F771 (pg) (9 : Int) from hM788 _ _ ho602.1 (own_z ho602.1) (by rw [ho602.2]; rfl)).trans ((show F771 (pg) (9 : Int) = F561 (pg) (9 : Int) from hM773 _ _ ho602.1 (own_z ho602.1) (by rw [ho602.2]; rfl)).trans ((show F561 (pg) (9 : Int) = Fx (pg) (9 : Int) from hM565 _ _ ho4.1 (own_z ho4.1) (by rw [ho4.2]; rfl)).trans (show Fx (pg) (9 : Int) = F (pg) (9 : Int) from hMx _ _ o_pg (own_z o_pg) (by rw [t_pg]; rfl))))))
            have q819 : F800 (r562) (14 : Int) = F561 (r562) (14 : Int) := ((show F800 (r562) (14 : Int) = F786 (r562) (14 : Int) from hM802 _ _ b566.1 (own_z b566.1) (by rw [b566.2]; rfl)).trans ((show F786 (r562) (14 : Int) = F771 (r562) (14 : Int) from hM788 _ _ b566.1 (own_z b566.1) (by rw [b566.2]; rfl)).trans (show F771 (r562) (14 : Int) = F561 (r562) (14 : Int) from hM773 _ _ b566.1 (own_z b566.1) (by rw [b566.2]; rfl))))
            exact ih _ (by omega) L808 m560 tg560 ln560 F800 (sz) (kd) ((k + (1))) (bf) (r562) (r562) rfl g809 g810 g811 g815 g812 g814 hX604 hC801 hM806 (by omega) (by omega) (by omega) y599 (Or.inr ⟨b566.1, b566.2⟩) (by omega) (by omega) (by omega) (by omega) (by omega) (by omega) (by omega) (by omega) (by omega) (by omega) (by omega) c807 c605 (((show F800 (me) (2 : Int) = F786 (me) (2 : Int) from hM802 _ _ ho598.1 (own_z ho598.1) (by rw [ho598.2]; rfl)).trans (show F786 (me) (2 : Int) = F771 (me) (2 : Int) from hM788 _ _ ho598.1 (own_z ho598.1) (by rw [ho598.2]; rfl))).trans p774) (Or.inr ⟨b566.1, b566.2⟩)
          · have _q := h795
            refine jx_go (tg := 196) rfl rfl ?_
            refine jx_ld (pc_q := 197) (l_q := L762) (st_q := [rv (me)]) rfl (jl_rvn g763) ?_
            refine jx_ar (pc_q := 199) (st_q := [.int (i32 (53)), rv (me)]) rfl rfl rfl rfl ?_
            have q820 := tz_b (F786 (sc) (15 : Int))
            have q821 : F786 (sc) (7 : Int) = F (sc) (7 : Int) := ((show F786 (sc) (7 : Int) = F771 (sc) (7 : Int) from hM788 _ _ ho601.1 (own_z ho601.1) (by rw [ho601.2]; rfl)).trans q782)
            have q822 := lz_b (F786 (sc) (14 : Int))
            have q823 : F786 (pg) (9 : Int) = F (pg) (9 : Int) := ((show F786 (pg) (9 : Int) = F771 (pg) (9 : Int) from hM788 _ _ ho602.1 (own_z ho602.1) (by rw [ho602.2]; rfl)).trans ((show F771 (pg) (9 : Int) = F561 (pg) (9 : Int) from hM773 _ _ ho602.1 (own_z ho602.1) (by rw [ho602.2]; rfl)).trans ((show F561 (pg) (9 : Int) = Fx (pg) (9 : Int) from hM565 _ _ ho4.1 (own_z ho4.1) (by rw [ho4.2]; rfl)).trans (show Fx (pg) (9 : Int) = F (pg) (9 : Int) from hMx _ _ o_pg (own_z o_pg) (by rw [t_pg]; rfl)))))
            refine cx_vi (c := 8) (a := me) (st := []) (as := [.int (i32 (53))]) rfl rfl rfl ho598.1 ho598.2 (by decide) rfl ⟨rfl, rfl, (Nat.le_of_ble_eq_true rfl)⟩ rfl (k_LParser_expect (dd := d) (R := R) (m := m560) (tg := tg560) (ln := ln560) (F := F786) (me := me) (tk := 53) (hd := by omega) (hC := hC787) (o_me := ho598.1) (t_me := ho598.2) (h_tk := by omega) (sc := sc) (pg := pg) (o_sc := ho601.1) (t_sc := ho601.2) (e_sc := (((show F786 (me) (1 : Int) = F771 (me) (1 : Int) from hM788 _ _ ho598.1 (own_z ho598.1) (by rw [ho598.2]; rfl)).trans ((show F771 (me) (1 : Int) = F561 (me) (1 : Int) from hM773 _ _ ho598.1 (own_z ho598.1) (by rw [ho598.2]; rfl)).trans ((show F561 (me) (1 : Int) = Fx (me) (1 : Int) from hM565 _ _ ho2.1 (own_z ho2.1) (by rw [ho2.2]; rfl)).trans (show Fx (me) (1 : Int) = F (me) (1 : Int) from hMx _ _ o_me (own_z o_me) (by rw [t_me]; rfl))))).trans e_sc)) (o_pg := ho602.1) (t_pg := ho602.2) (e_pg := (((show F786 (me) (0 : Int) = F771 (me) (0 : Int) from hM788 _ _ ho598.1 (own_z ho598.1) (by rw [ho598.2]; rfl)).trans ((show F771 (me) (0 : Int) = F561 (me) (0 : Int) from hM773 _ _ ho598.1 (own_z ho598.1) (by rw [ho598.2]; rfl)).trans ((show F561 (me) (0 : Int) = Fx (me) (0 : Int) from hM565 _ _ ho2.1 (own_z ho2.1) (by rw [ho2.2]; rfl)).trans (show Fx (me) (0 : Int) = F (me) (0 : Int) from hMx _ _ o_me (own_z o_me) (by rw [t_me]; rfl))))).trans e_pg)) (p_0 := by omega) (p_1 := by omega) (p_2 := by omega) (p_3 := by omega) (c_NP := c793)) (fun o V_q hq => ?_)
            obtain ⟨m824, tg824, ln824, F825, rfl, rfl, hx826, hC827, hM828, p829, p830, p831, p832, p833, p834, p835, c836, c837, -⟩ | ⟨m838, tg838, ln838, F838, x838, rfl, rfl, hx838, hC838, hM838, ho838, ht838, p839, p840, p841, p842, c843, c844, -⟩ := hq
            rotate_left
            ·
              have c845 : NM m m838 tg838 := NM_t c605 hx838 c844
              have lm846 := hx838.1
              refine Or.inr (Or.inr (Or.inr ⟨_, _, rfl, cx_exc (c := 15) ho838 ht838 (by decide), rfl, ?_⟩))
              have q847 : F786 (sc) (7 : Int) = F (sc) (7 : Int) := q821
              exact Or.inr ⟨m838, tg838, ln838, F838, x838, rfl, rfl, Ex_t hX604 hx838, hC838, Fq_t (ln := ln) (ln1 := ln560) hM792 hX604 hM838 (by decide) (Or.inl rfl), (And.intro ho838 ht838).1, (And.intro ho838 ht838).2, by omega, by omega, by omega, by omega, c843, c845, trivial⟩
            have hM848 : Fq 0 [(7, 15), (9, 2), (9, 3), (10, 0), (10, 1), (10, 2), (10, 8), (11, 8), (11, 12), (11, 13), (11, 14), (11, 15), (11, 16), (11, 17), (11, 18)] m tg F F825 := Fq_t (ln := ln) (ln1 := ln560) hM792 hX604 hM828 (by decide) (Or.inl rfl)
            have lm849 := hx826.1
            have lt850 : bf < 64 + (m560 : Int) := by rcases y599 with w | w; (· omega); exact w.1.2.1
            have lt851 : r562 < 64 + (m560 : Int) := b566.1.2.1
            have lt852 : tp < 64 + (m560 : Int) := ho603.1.2.1
            have ho853 : own m824 (me) ∧ tg824 (me) = 9 := Ex_o hx826 ⟨ho598.1, ho598.2⟩
            have y854 : bf = 0 ∨ (own m824 (bf) ∧ tg824 (bf) = 7) := Ex_z hx826 y599
            have ho855 : own m824 (r562) ∧ tg824 (r562) = 7 := Ex_o hx826 ⟨b566.1, b566.2⟩
            have ho856 : own m824 (sc) ∧ tg824 (sc) = 11 := Ex_o hx826 ⟨ho601.1, ho601.2⟩
            have ho857 : own m824 (pg) ∧ tg824 (pg) = 10 := Ex_o hx826 ⟨ho602.1, ho602.2⟩
            have ho858 : own m824 (tp) ∧ tg824 (tp) = 7 := Ex_o hx826 ⟨ho603.1, ho603.2⟩
            have hX859 := Ex_t hX604 hx826
            have c860 : NM m m824 tg824 := NM_t c605 hx826 c837
            refine Or.inl ⟨rfl, ?_⟩
            refine jx_ld (pc_q := 203) (l_q := L762) (st_q := [rv (me)]) rfl (jl_rvn g763) ?_
            have q861 := tz_b (F825 (sc) (15 : Int))
            have q862 : F825 (sc) (7 : Int) = F (sc) (7 : Int) := ((show F825 (sc) (7 : Int) = F786 (sc) (7 : Int) from hM828 _ _ ho601.1 (own_z ho601.1) (by rw [ho601.2]; rfl)).trans q821)
            have q863 := lz_b (F825 (sc) (14 : Int))
            have q864 : F825 (pg) (9 : Int) = F (pg) (9 : Int) := ((show F825 (pg) (9 : Int) = F786 (pg) (9 : Int) from hM828 _ _ ho602.1 (own_z ho602.1) (by rw [ho602.2]; rfl)).trans q823)
            refine cx_vi (c := 8) (a := me) (st := []) (as := []) rfl rfl rfl ho853.1 ho853.2 (by decide) rfl ⟨rfl, rfl, (Nat.le_of_ble_eq_true rfl)⟩ rfl (k_LParser_endLine (dd := d) (R := R) (m := m824) (tg := tg824) (ln := ln824) (F := F825) (me := me) (hd := by omega) (hC := hC827) (o_me := ho853.1) (t_me := ho853.2) (sc := sc) (pg := pg) (o_sc := ho856.1) (t_sc := ho856.2) (e_sc := (((show F825 (me) (1 : Int) = F786 (me) (1 : Int) from hM828 _ _ ho598.1 (own_z ho598.1) (by rw [ho598.2]; rfl)).trans ((show F786 (me) (1 : Int) = F771 (me) (1 : Int) from hM788 _ _ ho598.1 (own_z ho598.1) (by rw [ho598.2]; rfl)).trans ((show F771 (me) (1 : Int) = F561 (me) (1 : Int) from hM773 _ _ ho598.1 (own_z ho598.1) (by rw [ho598.2]; rfl)).trans ((show F561 (me) (1 : Int) = Fx (me) (1 : Int) from hM565 _ _ ho2.1 (own_z ho2.1) (by rw [ho2.2]; rfl)).trans (show Fx (me) (1 : Int) = F (me) (1 : Int) from hMx _ _ o_me (own_z o_me) (by rw [t_me]; rfl)))))).trans e_sc)) (o_pg := ho857.1) (t_pg := ho857.2) (e_pg := (((show F825 (me) (0 : Int) = F786 (me) (0 : Int) from hM828 _ _ ho598.1 (own_z ho598.1) (by rw [ho598.2]; rfl)).trans ((show F786 (me) (0 : Int) = F771 (me) (0 : Int) from hM788 _ _ ho598.1 (own_z ho598.1) (by rw [ho598.2]; rfl)).trans ((show F771 (me) (0 : Int) = F561 (me) (0 : Int) from hM773 _ _ ho598.1 (own_z ho598.1) (by rw [ho598.2]; rfl)).trans ((show F561 (me) (0 : Int) = Fx (me) (0 : Int) from hM565 _ _ ho2.1 (own_z ho2.1) (by rw [ho2.2]; rfl)).trans (show Fx (me) (0 : Int) = F (me) (0 : Int) from hMx _ _ o_me (own_z o_me) (by rw [t_me]; rfl)))))).trans e_pg)) (p_0 := by omega) (p_1 := by omega) (p_2 := by omega) (c_NP := c836)) (fun o V_q hq => ?_)
            obtain ⟨m865, tg865, ln865, F866, rfl, rfl, hx867, hC868, hM869, p870, p871, p872, p873, p874, p875, p876, c877, c878, -⟩ | ⟨m879, tg879, ln879, F879, x879, rfl, rfl, hx879, hC879, hM879, ho879, ht879, p880, p881, p882, p883, c884, c885, -⟩ := hq
            rotate_left
            ·
              have c886 : NM m m879 tg879 := NM_t c860 hx879 c885
              have lm887 := hx879.1
              refine Or.inr (Or.inr (Or.inr ⟨_, _, rfl, cx_exc (c := 15) ho879 ht879 (by decide), rfl, ?_⟩))
              have q888 : F825 (sc) (7 : Int) = F (sc) (7 : Int) := q862
              exact Or.inr ⟨m879, tg879, ln879, F879, x879, rfl, rfl, Ex_t hX859 hx879, hC879, Fq_t (ln := ln) (ln1 := ln824) hM848 hX859 hM879 (by decide) (Or.inl rfl), (And.intro ho879 ht879).1, (And.intro ho879 ht879).2, by omega, by omega, by omega, by omega, c884, c886, trivial⟩
            have hM889 : Fq 0 [(7, 15), (9, 2), (9, 3), (10, 0), (10, 1), (10, 2), (10, 8), (11, 8), (11, 12), (11, 13), (11, 14), (11, 15), (11, 16), (11, 17), (11, 18)] m tg F F866 := Fq_t (ln := ln) (ln1 := ln824) hM848 hX859 hM869 (by decide) (Or.inl rfl)
            have lm890 := hx867.1
            have lt891 : bf < 64 + (m824 : Int) := by rcases y854 with w | w; (· omega); exact w.1.2.1
            have lt892 : r562 < 64 + (m824 : Int) := ho855.1.2.1
            have lt893 : tp < 64 + (m824 : Int) := ho858.1.2.1
            have ho894 : own m865 (me) ∧ tg865 (me) = 9 := Ex_o hx867 ⟨ho853.1, ho853.2⟩
            have y895 : bf = 0 ∨ (own m865 (bf) ∧ tg865 (bf) = 7) := Ex_z hx867 y854
            have ho896 : own m865 (r562) ∧ tg865 (r562) = 7 := Ex_o hx867 ⟨ho855.1, ho855.2⟩
            have ho897 : own m865 (sc) ∧ tg865 (sc) = 11 := Ex_o hx867 ⟨ho856.1, ho856.2⟩
            have ho898 : own m865 (pg) ∧ tg865 (pg) = 10 := Ex_o hx867 ⟨ho857.1, ho857.2⟩
            have ho899 : own m865 (tp) ∧ tg865 (tp) = 7 := Ex_o hx867 ⟨ho858.1, ho858.2⟩
            have hX900 := Ex_t hX859 hx867
            have c901 : NM m m865 tg865 := NM_t c860 hx867 c878
            refine Or.inl ⟨rfl, ?_⟩
            refine jx_ld (pc_q := 208) (l_q := L762) (st_q := [rv (r562)]) rfl (jl_rv g769) ?_
            refine jx_rt (v := some (rv (r562))) rfl rfl rfl rfl rfl jr_are ?_
            have q902 : F866 (sc) (7 : Int) = F (sc) (7 : Int) := ((show F866 (sc) (7 : Int) = F825 (sc) (7 : Int) from hM869 _ _ ho856.1 (own_z ho856.1) (by rw [ho856.2]; rfl)).trans q862)
            have q903 : F866 (pg) (9 : Int) = F (pg) (9 : Int) := ((show F866 (pg) (9 : Int) = F825 (pg) (9 : Int) from hM869 _ _ ho857.1 (own_z ho857.1) (by rw [ho857.2]; rfl)).trans q864)
            have q904 := tz_b (F866 (sc) (15 : Int))
            have q905 := lz_b (F866 (sc) (14 : Int))
            have q906 : F866 (pg) (9 : Int) = F (pg) (9 : Int) := q903
            have q907 : F866 (me) (2 : Int) = r562 := (((show F866 (me) (2 : Int) = F825 (me) (2 : Int) from hM869 _ _ ho853.1 (own_z ho853.1) (by rw [ho853.2]; rfl)).trans ((show F825 (me) (2 : Int) = F786 (me) (2 : Int) from hM828 _ _ ho598.1 (own_z ho598.1) (by rw [ho598.2]; rfl)).trans (show F786 (me) (2 : Int) = F771 (me) (2 : Int) from hM788 _ _ ho598.1 (own_z ho598.1) (by rw [ho598.2]; rfl)))).trans p774)
            exact Or.inl ⟨m865, tg865, ln865, F866, (r562), rfl, rfl, hX900, hC868, hM889, ⟨ho896.1, ho896.2⟩, by omega, by omega, by omega, by omega, by omega, by omega, by omega, by omega, by rw [show F866 (me) (2 : Int) = r562 from q907, show F866 (r562) (14 : Int) = F561 (r562) (14 : Int) from ((show F866 (r562) (14 : Int) = F825 (r562) (14 : Int) from hM869 _ _ ho855.1 (own_z ho855.1) (by rw [ho855.2]; rfl)).trans ((show F825 (r562) (14 : Int) = F786 (r562) (14 : Int) from hM828 _ _ b566.1 (own_z b566.1) (by rw [b566.2]; rfl)).trans ((show F786 (r562) (14 : Int) = F771 (r562) (14 : Int) from hM788 _ _ b566.1 (own_z b566.1) (by rw [b566.2]; rfl)).trans (show F771 (r562) (14 : Int) = F561 (r562) (14 : Int) from hM773 _ _ b566.1 (own_z b566.1) (by rw [b566.2]; rfl)))))]; omega, c877, c901, trivial⟩
set_option maxRecDepth 20000 in
set_option maxHeartbeats 4000000 in
theorem k_LParser_readDeclaration {X : jX} {dd : Nat} {R : Nat → jC} {m : Nat} {tg ln : Int → Int} {F : Int → Int → Int} {me : Int} (hd : 70 ≤ dd) (hC : HC 0 m tg ln F) {sc pg : Int} (o_sc : own m sc) (t_sc : tg sc = 11) (e_sc : F me (1 : Int) = sc) (o_pg : own m pg) (t_pg : tg pg = 10) (e_pg : F me (0 : Int) = pg) (o_me : own m me) (t_me : tg me = 9) (p_0 : F sc (8 : Int) + 2 * tz (F sc (15 : Int)) ≤ F sc (7 : Int) + 1) (p_1 : F sc (8 : Int) + 2 * lz (F sc (14 : Int)) ≤ F sc (7 : Int) + 1) (p_2 : F sc (8 : Int) ≤ F sc (7 : Int)) (c_NP : NP m tg F) : wk X dd 179 [rv me] (cV R m tg ln F) (fun o V_q => (∃ (m_q : Nat) (tg_q ln_q : Int → Int) (F_q : Int → Int → Int) (r : Int), V_q = cV R m_q tg_q ln_q F_q ∧ o = .inl (some (rv r)) ∧ Ex m tg ln m_q tg_q ln_q ∧ HC 0 m_q tg_q ln_q F_q ∧ Fq 0 [(7, 15), (9, 2), (9, 3), (10, 0), (10, 1), (10, 2), (10, 8), (11, 8), (11, 12), (11, 13), (11, 14), (11, 15), (11, 16), (11, 17), (11, 18)] m tg F F_q ∧ (own m_q r ∧ tg_q r = 7) ∧ (F_q sc (8 : Int) + 2 * tz (F_q sc (15 : Int)) ≤ F sc (7 : Int) + 1) ∧ (F_q sc (8 : Int) + 2 * lz (F_q sc (14 : Int)) ≤ F sc (7 : Int) + 1) ∧ (F sc (8 : Int) ≤ F_q sc (8 : Int)) ∧ (szD m_q tg_q ln_q = szD m tg ln + 25 * ((m_q : Int) - (m : Int))) ∧ ((m_q : Int) ≤ (m : Int) + (F_q sc (8 : Int) - F sc (8 : Int)) + (0)) ∧ (F_q pg (9 : Int) ≤ F pg (9 : Int) + ((m_q : Int) - (m : Int))) ∧ (64 + (m : Int) ≤ r) ∧ (64 + (m : Int) ≤ F_q me (2 : Int)) ∧ (F_q (F_q me (2 : Int)) (14 : Int) = 0) ∧ (NP m_q tg_q F_q) ∧ (NM m m_q tg_q) ∧ True) ∨ (∃ (m_q : Nat) (tg_q ln_q : Int → Int) (F_q : Int → Int → Int) (x : Nat), V_q = cV R m_q tg_q ln_q F_q ∧ o = .inr x ∧ Ex m tg ln m_q tg_q ln_q ∧ HC 0 m_q tg_q ln_q F_q ∧ Fq 0 [(7, 15), (9, 2), (9, 3), (10, 0), (10, 1), (10, 2), (10, 8), (11, 8), (11, 12), (11, 13), (11, 14), (11, 15), (11, 16), (11, 17), (11, 18)] m tg F F_q ∧ (own m_q (x : Int)) ∧ (tg_q (x : Int) = 16) ∧ (F_q pg (0 : Int) ≠ 0) ∧ (szD m_q tg_q ln_q = szD m tg ln + 25 * ((m_q : Int) - (m : Int))) ∧ ((m_q : Int) ≤ (m : Int) + (F_q sc (8 : Int) - F sc (8 : Int)) + (1)) ∧ (F_q sc (8 : Int) ≤ F sc (7 : Int) + 1) ∧ (NP m_q tg_q F_q) ∧ (NM m m_q tg_q) ∧ True)) := by
  obtain ⟨d, rfl⟩ : ∃ d, dd = d + 1 := ⟨dd - 1, by omega⟩
  refine wk_of (e := jm179) rfl (by rw [jS_r, jS_0]; exact Nat.le_of_ble_eq_true rfl) ?_
  rw [la_r, la_0]
  show wj X d jm179 (0, [(0, rv (me))], [], cV R m tg ln F) _
  have hM0 : Fq 0 [(7, 15), (9, 2), (9, 3), (10, 0), (10, 1), (10, 2), (10, 8), (11, 8), (11, 12), (11, 13), (11, 14), (11, 15), (11, 16), (11, 17), (11, 18)] m tg F F := Fq_r
  have hX0 : Ex m tg ln m tg ln := Ex_r
  obtain ⟨L0, eL0⟩ : ∃ q : jL, q = [(0, rv (me))] := ⟨_, rfl⟩
  rw [← eL0]
  have g908 : jGet L0 0 = some (rv (me)) := eL0 ▸ (rfl : jGet [(0, rv (me))] 0 = some (rv (me)))
  clear eL0
  have tb0 := tz_b (F sc (15 : Int))
  have lb0 := lz_b (F sc (14 : Int))
  have ob0 : (0 : Int) ≤ F me (3 : Int) ∧ F me (3 : Int) ≤ 8 := HC_i (c := 8) (q := 3) hC o_me t_me (by decide) rfl
  have tp0 : F me (2 : Int) < 64 + (m : Int) := by
    have z : F me (2 : Int) = 0 ∨ (own m (F me (2 : Int)) ∧ tg (F me (2 : Int)) = 7) := HC_r (c := 8) (q := 2) hC o_me t_me (by decide) rfl
    rcases z with w | w
    · omega
    · exact w.1.2.1
  refine jx_ar (pc_q := 1) (st_q := [.int (i32 (0))]) rfl rfl rfl rfl ?_
  refine jx_ld (pc_q := 2) (l_q := jSto1 L0 1 (.int (i32 (0)))) (st_q := []) rfl rfl ?_
  obtain ⟨L909, eL909⟩ : ∃ q : jL, q = jSto1 L0 1 (.int (i32 (0))) := ⟨_, rfl⟩
  rw [← eL909]
  have g910 : jGet L909 0 = some (rv (me)) := eL909 ▸ jg_nr (by decide) g908
  have g911 : jGet L909 1 = some (.int (i32 (0))) := eL909 ▸ jg_eq
  clear eL909
  refine jx_ld (pc_q := 3) (l_q := L909) (st_q := [rv (me)]) rfl (jl_rvn g910) ?_
  refine cx_gr (pc_q := 6) (c := 8) (q := 1) (v := sc) rfl rfl (by decide) (by decide) rfl rfl o_me t_me e_sc ?_
  refine cx_gi (pc_q := 9) (c := 10) (q := 15) (v := F (sc) (15 : Int)) rfl rfl (by decide) (by decide) (Or.inl rfl) rfl o_sc t_sc rfl ?_
  have b912 : (-2147483648 : Int) ≤ F (sc) (15 : Int) ∧ F (sc) (15 : Int) ≤ 2147483647 := by have z := HC_i (c := 10) (q := 15) hC o_sc t_sc (by decide) rfl; rw [show F (sc) ((15 : Nat) : Int) = F (sc) (15 : Int) from rfl] at z; exact z
  refine jx_ar (pc_q := 11) (st_q := [.int (i32 (56)), .int (i32 (F (sc) (15 : Int)))]) rfl rfl rfl rfl ?_
  refine jx_icmp_ne (pc_q := 14) (tg := 35) rfl rfl rfl (by omega) (by omega) (by decide) (by decide) (fun h913 => ?_) (fun h913 => ?_)
  · have _q := h913
    refine jx_ld (pc_q := 36) (l_q := L909) (st_q := [rv (me)]) rfl (jl_rvn g910) ?_
    refine cx_gr (pc_q := 39) (c := 8) (q := 1) (v := sc) rfl rfl (by decide) (by decide) rfl rfl o_me t_me e_sc ?_
    refine cx_gi (pc_q := 42) (c := 10) (q := 15) (v := F (sc) (15 : Int)) rfl rfl (by decide) (by decide) (Or.inl rfl) rfl o_sc t_sc rfl ?_
    refine jx_ar (pc_q := 44) (st_q := [.int (i32 (19)), .int (i32 (F (sc) (15 : Int)))]) rfl rfl rfl rfl ?_
    refine jx_icmp_ne (pc_q := 47) (tg := 51) rfl rfl rfl (by omega) (by omega) (by decide) (by decide) (fun h914 => ?_) (fun h914 => ?_)
    · have _q := h914
      refine jx_ar (pc_q := 52) (st_q := [.int (i32 (0))]) rfl rfl rfl rfl ?_
      refine jx_ld (pc_q := 53) (l_q := jSto1 L909 2 (.int (i32 (0)))) (st_q := []) rfl rfl ?_
      obtain ⟨L915, eL915⟩ : ∃ q : jL, q = jSto1 L909 2 (.int (i32 (0))) := ⟨_, rfl⟩
      rw [← eL915]
      have g916 : jGet L915 0 = some (rv (me)) := eL915 ▸ jg_nr (by decide) g910
      have g917 : jGet L915 1 = some (.int (i32 (0))) := eL915 ▸ jg_ne (by decide) g911 rfl
      have g918 : jGet L915 2 = some (.int (i32 (0))) := eL915 ▸ jg_eq
      clear eL915
      refine jx_ld (pc_q := 54) (l_q := L915) (st_q := [rv (me)]) rfl (jl_rvn g916) ?_
      refine jx_ld (pc_q := 55) (l_q := L915) (st_q := [.int (i32 (0)), rv (me)]) rfl (jl_iloadn g918) ?_
      refine jx_if_eq (pc_q := 58) (tg := 63) rfl rfl rfl (by decide) (by decide) (fun h919 => ?_) (fun h919 => ?_)
      · have _q := h919
        refine jx_ar (pc_q := 65) (st_q := [.int (i32 (18)), rv (me)]) rfl rfl rfl rfl ?_
        have q920 := tz_b (F (sc) (15 : Int))
        have q921 := lz_b (F (sc) (14 : Int))
        refine cx_vi (c := 8) (a := me) (st := []) (as := [.int (i32 (18))]) rfl rfl rfl o_me t_me (by decide) rfl ⟨rfl, rfl, (Nat.le_of_ble_eq_true rfl)⟩ rfl (k_LParser_expect (dd := d) (R := R) (m := m) (tg := tg) (ln := ln) (F := F) (me := me) (tk := 18) (hd := by omega) (hC := hC) (o_me := o_me) (t_me := t_me) (h_tk := by omega) (sc := sc) (pg := pg) (o_sc := o_sc) (t_sc := t_sc) (e_sc := e_sc) (o_pg := o_pg) (t_pg := t_pg) (e_pg := e_pg) (p_0 := by omega) (p_1 := by omega) (p_2 := by omega) (p_3 := by omega) (c_NP := c_NP)) (fun o V_q hq => ?_)
        obtain ⟨m922, tg922, ln922, F923, rfl, rfl, hx924, hC925, hM926, p927, p928, p929, p930, p931, p932, p933, c934, c935, -⟩ | ⟨m936, tg936, ln936, F936, x936, rfl, rfl, hx936, hC936, hM936, ho936, ht936, p937, p938, p939, p940, c941, c942, -⟩ := hq
        rotate_left
        ·
          have c943 : NM m m936 tg936 := NM_t NM_0 hx936 c942
          have lm944 := hx936.1
          refine Or.inr (Or.inr (Or.inr ⟨_, _, rfl, cx_exc (c := 15) ho936 ht936 (by decide), rfl, ?_⟩))
          exact Or.inr ⟨m936, tg936, ln936, F936, x936, rfl, rfl, Ex_t hX0 hx936, hC936, Fq_t (ln := ln) (ln1 := ln) hM0 hX0 hM936 (by decide) (Or.inl rfl), (And.intro ho936 ht936).1, (And.intro ho936 ht936).2, by omega, by omega, by omega, by omega, c941, c943, trivial⟩
        have hM945 : Fq 0 [(7, 15), (9, 2), (9, 3), (10, 0), (10, 1), (10, 2), (10, 8), (11, 8), (11, 12), (11, 13), (11, 14), (11, 15), (11, 16), (11, 17), (11, 18)] m tg F F923 := Fq_t (ln := ln) (ln1 := ln) hM0 hX0 hM926 (by decide) (Or.inl rfl)
        have lm946 := hx924.1
        have ho947 : own m922 (me) ∧ tg922 (me) = 9 := Ex_o hx924 ⟨o_me, t_me⟩
        have ho948 : own m922 (sc) ∧ tg922 (sc) = 11 := Ex_o hx924 ⟨o_sc, t_sc⟩
        have ho949 : own m922 (pg) ∧ tg922 (pg) = 10 := Ex_o hx924 ⟨o_pg, t_pg⟩
        have hX950 := Ex_t hX0 hx924
        have c951 : NM m m922 tg922 := NM_t NM_0 hx924 c935
        refine Or.inl ⟨rfl, ?_⟩
        refine jx_ld (pc_q := 69) (l_q := L915) (st_q := [.int (i32 (0))]) rfl (jl_iloadn g918) ?_
        refine jx_if_eq (pc_q := 72) (tg := 77) rfl rfl rfl (by decide) (by decide) (fun h952 => ?_) (fun h952 => ?_)
        · have _q := h952
          refine jx_ar (pc_q := 78) (st_q := [.int (i32 (0))]) rfl rfl rfl rfl ?_
          refine jx_ld (pc_q := 79) (l_q := jSto1 L915 3 (.int (i32 (0)))) (st_q := []) rfl rfl ?_
          obtain ⟨L953, eL953⟩ : ∃ q : jL, q = jSto1 L915 3 (.int (i32 (0))) := ⟨_, rfl⟩
          rw [← eL953]
          have g954 : jGet L953 0 = some (rv (me)) := eL953 ▸ jg_nr (by decide) g916
          have g955 : jGet L953 1 = some (.int (i32 (0))) := eL953 ▸ jg_ne (by decide) g917 rfl
          have g956 : jGet L953 2 = some (.int (i32 (0))) := eL953 ▸ jg_ne (by decide) g918 rfl
          have g957 : jGet L953 3 = some (.int (i32 (0))) := eL953 ▸ jg_eq
          clear eL953
          refine jx_ld (pc_q := 80) (l_q := L953) (st_q := [.int (i32 (0))]) rfl (jl_iloadn g955) ?_
          refine jx_if_ne (pc_q := 83) (tg := 87) rfl rfl rfl (by decide) (by decide) (fun h958 => ?_) (fun h958 => ?_)
          · have _q := h958
            exact absurd h958 (by omega)
          · have _q := h958
            refine jx_ld (pc_q := 84) (l_q := L953) (st_q := [.int (i32 (0))]) rfl (jl_iloadn g957) ?_
            refine jx_go (tg := 97) rfl rfl ?_
            refine jx_ld (pc_q := 99) (l_q := jSto1 L953 4 (.int (i32 (0)))) (st_q := []) rfl rfl ?_
            obtain ⟨L959, eL959⟩ : ∃ q : jL, q = jSto1 L953 4 (.int (i32 (0))) := ⟨_, rfl⟩
            rw [← eL959]
            have g960 : jGet L959 0 = some (rv (me)) := eL959 ▸ jg_nr (by decide) g954
            have g961 : jGet L959 1 = some (.int (i32 (0))) := eL959 ▸ jg_ne (by decide) g955 rfl
            have g962 : jGet L959 2 = some (.int (i32 (0))) := eL959 ▸ jg_ne (by decide) g956 rfl
            have g963 : jGet L959 3 = some (.int (i32 (0))) := eL959 ▸ jg_ne (by decide) g957 rfl
            have g964 : jGet L959 4 = some (.int (i32 (0))) := eL959 ▸ jg_eq
            clear eL959
            refine jx_ld (pc_q := 100) (l_q := L959) (st_q := [rv (me)]) rfl (jl_rvn g960) ?_
            refine cx_gr (pc_q := 103) (c := 8) (q := 2) (v := F (me) (2 : Int)) rfl rfl (by decide) (by decide) rfl rfl ho947.1 ho947.2 (show F923 (me) (2 : Int) = F (me) (2 : Int) from hM926 _ _ o_me (own_z o_me) (by rw [t_me]; rfl)) ?_
            have y965 : F (me) (2 : Int) = 0 ∨ (own m922 (F (me) (2 : Int)) ∧ tg922 (F (me) (2 : Int)) = 7) := by have z := HC_r (c := 8) (q := 2) hC925 ho947.1 ho947.2 (by decide) rfl; rw [show F923 (me) ((2 : Nat) : Int) = F (me) (2 : Int) from (show F923 (me) (2 : Int) = F (me) (2 : Int) from hM926 _ _ o_me (own_z o_me) (by rw [t_me]; rfl))] at z; exact z
            refine jx_ld (pc_q := 105) (l_q := jSto1 L959 5 (rv (F (me) (2 : Int)))) (st_q := []) rfl (js_rv (by decide)) ?_
            obtain ⟨L966, eL966⟩ : ∃ q : jL, q = jSto1 L959 5 (rv (F (me) (2 : Int))) := ⟨_, rfl⟩
            rw [← eL966]
            have g967 : jGet L966 0 = some (rv (me)) := eL966 ▸ jg_nr (by decide) g960
            have g968 : jGet L966 1 = some (.int (i32 (0))) := eL966 ▸ jg_ne (by decide) g961 rfl
            have g969 : jGet L966 2 = some (.int (i32 (0))) := eL966 ▸ jg_ne (by decide) g962 rfl
            have g970 : jGet L966 3 = some (.int (i32 (0))) := eL966 ▸ jg_ne (by decide) g963 rfl
            have g971 : jGet L966 4 = some (.int (i32 (0))) := eL966 ▸ jg_ne (by decide) g964 rfl
            have g972 : jGet L966 5 = some (rv (F (me) (2 : Int))) := eL966 ▸ jg_eq
            clear eL966
            refine jx_ar (pc_q := 106) (st_q := .null :: []) rfl rfl rfl rfl ?_
            rw [← rv_0]
            refine jx_ld (pc_q := 108) (l_q := jSto1 L966 6 (rv (0))) (st_q := []) rfl (js_rv (by decide)) ?_
            obtain ⟨L973, eL973⟩ : ∃ q : jL, q = jSto1 L966 6 (rv (0)) := ⟨_, rfl⟩
            rw [← eL973]
            have g974 : jGet L973 0 = some (rv (me)) := eL973 ▸ jg_nr (by decide) g967
            have g975 : jGet L973 1 = some (.int (i32 (0))) := eL973 ▸ jg_ne (by decide) g968 rfl
            have g976 : jGet L973 2 = some (.int (i32 (0))) := eL973 ▸ jg_ne (by decide) g969 rfl
            have g977 : jGet L973 3 = some (.int (i32 (0))) := eL973 ▸ jg_ne (by decide) g970 rfl
            have g978 : jGet L973 4 = some (.int (i32 (0))) := eL973 ▸ jg_ne (by decide) g971 rfl
            have g979 : jGet L973 5 = some (rv (F (me) (2 : Int))) := eL973 ▸ jg_nr (by decide) g972
            have g980 : jGet L973 6 = some (rv (0)) := eL973 ▸ jg_eq
            clear eL973
            refine jx_ar (pc_q := 109) (st_q := [.int (i32 (0))]) rfl rfl rfl rfl ?_
            refine jx_ld (pc_q := 111) (l_q := jSto1 L973 7 (.int (i32 (0)))) (st_q := []) rfl rfl ?_
            obtain ⟨L981, eL981⟩ : ∃ q : jL, q = jSto1 L973 7 (.int (i32 (0))) := ⟨_, rfl⟩
            rw [← eL981]
            have g982 : jGet L981 0 = some (rv (me)) := eL981 ▸ jg_nr (by decide) g974
            have g983 : jGet L981 1 = some (.int (i32 (0))) := eL981 ▸ jg_ne (by decide) g975 rfl
            have g984 : jGet L981 2 = some (.int (i32 (0))) := eL981 ▸ jg_ne (by decide) g976 rfl
            have g985 : jGet L981 3 = some (.int (i32 (0))) := eL981 ▸ jg_ne (by decide) g977 rfl
            have g986 : jGet L981 4 = some (.int (i32 (0))) := eL981 ▸ jg_ne (by decide) g978 rfl
            have g987 : jGet L981 5 = some (rv (F (me) (2 : Int))) := eL981 ▸ jg_nr (by decide) g979
            have g988 : jGet L981 6 = some (rv (0)) := eL981 ▸ jg_nr (by decide) g980
            have g989 : jGet L981 7 = some (.int (i32 (0))) := eL981 ▸ jg_eq
            clear eL981
            have q990 := tz_b (F923 (sc) (15 : Int))
            have q991 := lz_b (F923 (sc) (14 : Int))
            have q992 : F923 (pg) (9 : Int) = F (pg) (9 : Int) := (show F923 (pg) (9 : Int) = F (pg) (9 : Int) from hM926 _ _ o_pg (own_z o_pg) (by rw [t_pg]; rfl))
            exact k_LParser_readDeclaration_at_111 (X := X) (d := d) (R := R) (m := m) (tg := tg) (ln := ln) (F := F) (me := me) (hd := hd) (hC := hC) (sc := sc) (pg := pg) (o_sc := o_sc) (t_sc := t_sc) (e_sc := e_sc) (o_pg := o_pg) (t_pg := t_pg) (e_pg := e_pg) (o_me := o_me) (t_me := t_me) (p_0 := p_0) (p_1 := p_1) (p_2 := p_2) (c_NP := c_NP) _ L981 m922 tg922 ln922 F923 (0) (0) (0) (F (me) (2 : Int)) (0) (F (me) (2 : Int)) rfl g982 g983 g986 g989 g987 g988 hX950 hC925 hM945 (by omega) (by omega) (by omega) y965 (Or.inl rfl) (by omega) (by omega) (by omega) (by omega) (by omega) (by omega) (by omega) (by omega) (by omega) (by omega) (by omega) c934 c951 (show F923 (me) (2 : Int) = F (me) (2 : Int) from hM926 _ _ o_me (own_z o_me) (by rw [t_me]; rfl)) y965
        · have _q := h952
          exact absurd h952 (by omega)
      · have _q := h919
        exact absurd h919 (by omega)
    · have _q := h914
      have t993 : tz (F (sc) (15 : Int)) = 1 := tz_p (by omega)
      refine jx_ar (pc_q := 48) (st_q := [.int (i32 (1))]) rfl rfl rfl rfl ?_
      refine jx_go (tg := 52) rfl rfl ?_
      refine jx_ld (pc_q := 53) (l_q := jSto1 L909 2 (.int (i32 (1)))) (st_q := []) rfl rfl ?_
      obtain ⟨L994, eL994⟩ : ∃ q : jL, q = jSto1 L909 2 (.int (i32 (1))) := ⟨_, rfl⟩
      rw [← eL994]
      have g995 : jGet L994 0 = some (rv (me)) := eL994 ▸ jg_nr (by decide) g910
      have g996 : jGet L994 1 = some (.int (i32 (0))) := eL994 ▸ jg_ne (by decide) g911 rfl
      have g997 : jGet L994 2 = some (.int (i32 (1))) := eL994 ▸ jg_eq
      clear eL994
      refine jx_ld (pc_q := 54) (l_q := L994) (st_q := [rv (me)]) rfl (jl_rvn g995) ?_
      refine jx_ld (pc_q := 55) (l_q := L994) (st_q := [.int (i32 (1)), rv (me)]) rfl (jl_iloadn g997) ?_
      refine jx_if_eq (pc_q := 58) (tg := 63) rfl rfl rfl (by decide) (by decide) (fun h998 => ?_) (fun h998 => ?_)
      · have _q := h998
        exact absurd h998 (by omega)
      · have _q := h998
        refine jx_ar (pc_q := 60) (st_q := [.int (i32 (19)), rv (me)]) rfl rfl rfl rfl ?_
        refine jx_go (tg := 65) rfl rfl ?_
        have q999 := tz_b (F (sc) (15 : Int))
        have q1000 := lz_b (F (sc) (14 : Int))
        refine cx_vi (c := 8) (a := me) (st := []) (as := [.int (i32 (19))]) rfl rfl rfl o_me t_me (by decide) rfl ⟨rfl, rfl, (Nat.le_of_ble_eq_true rfl)⟩ rfl (k_LParser_expect (dd := d) (R := R) (m := m) (tg := tg) (ln := ln) (F := F) (me := me) (tk := 19) (hd := by omega) (hC := hC) (o_me := o_me) (t_me := t_me) (h_tk := by omega) (sc := sc) (pg := pg) (o_sc := o_sc) (t_sc := t_sc) (e_sc := e_sc) (o_pg := o_pg) (t_pg := t_pg) (e_pg := e_pg) (p_0 := by omega) (p_1 := by omega) (p_2 := by omega) (p_3 := by omega) (c_NP := c_NP)) (fun o V_q hq => ?_)
        obtain ⟨m1001, tg1001, ln1001, F1002, rfl, rfl, hx1003, hC1004, hM1005, p1006, p1007, p1008, p1009, p1010, p1011, p1012, c1013, c1014, -⟩ | ⟨m1015, tg1015, ln1015, F1015, x1015, rfl, rfl, hx1015, hC1015, hM1015, ho1015, ht1015, p1016, p1017, p1018, p1019, c1020, c1021, -⟩ := hq
        rotate_left
        ·
          have c1022 : NM m m1015 tg1015 := NM_t NM_0 hx1015 c1021
          have lm1023 := hx1015.1
          refine Or.inr (Or.inr (Or.inr ⟨_, _, rfl, cx_exc (c := 15) ho1015 ht1015 (by decide), rfl, ?_⟩))
          exact Or.inr ⟨m1015, tg1015, ln1015, F1015, x1015, rfl, rfl, Ex_t hX0 hx1015, hC1015, Fq_t (ln := ln) (ln1 := ln) hM0 hX0 hM1015 (by decide) (Or.inl rfl), (And.intro ho1015 ht1015).1, (And.intro ho1015 ht1015).2, by omega, by omega, by omega, by omega, c1020, c1022, trivial⟩
        have hM1024 : Fq 0 [(7, 15), (9, 2), (9, 3), (10, 0), (10, 1), (10, 2), (10, 8), (11, 8), (11, 12), (11, 13), (11, 14), (11, 15), (11, 16), (11, 17), (11, 18)] m tg F F1002 := Fq_t (ln := ln) (ln1 := ln) hM0 hX0 hM1005 (by decide) (Or.inl rfl)
        have lm1025 := hx1003.1
        have ho1026 : own m1001 (me) ∧ tg1001 (me) = 9 := Ex_o hx1003 ⟨o_me, t_me⟩
        have ho1027 : own m1001 (sc) ∧ tg1001 (sc) = 11 := Ex_o hx1003 ⟨o_sc, t_sc⟩
        have ho1028 : own m1001 (pg) ∧ tg1001 (pg) = 10 := Ex_o hx1003 ⟨o_pg, t_pg⟩
        have hX1029 := Ex_t hX0 hx1003
        have c1030 : NM m m1001 tg1001 := NM_t NM_0 hx1003 c1014
        refine Or.inl ⟨rfl, ?_⟩
        refine jx_ld (pc_q := 69) (l_q := L994) (st_q := [.int (i32 (1))]) rfl (jl_iloadn g997) ?_
        refine jx_if_eq (pc_q := 72) (tg := 77) rfl rfl rfl (by decide) (by decide) (fun h1031 => ?_) (fun h1031 => ?_)
        · have _q := h1031
          exact absurd h1031 (by omega)
        · have _q := h1031
          refine jx_ar (pc_q := 74) (st_q := [.int (i32 (7))]) rfl rfl rfl rfl ?_
          refine jx_go (tg := 78) rfl rfl ?_
          refine jx_ld (pc_q := 79) (l_q := jSto1 L994 3 (.int (i32 (7)))) (st_q := []) rfl rfl ?_
          obtain ⟨L1032, eL1032⟩ : ∃ q : jL, q = jSto1 L994 3 (.int (i32 (7))) := ⟨_, rfl⟩
          rw [← eL1032]
          have g1033 : jGet L1032 0 = some (rv (me)) := eL1032 ▸ jg_nr (by decide) g995
          have g1034 : jGet L1032 1 = some (.int (i32 (0))) := eL1032 ▸ jg_ne (by decide) g996 rfl
          have g1035 : jGet L1032 2 = some (.int (i32 (1))) := eL1032 ▸ jg_ne (by decide) g997 rfl
          have g1036 : jGet L1032 3 = some (.int (i32 (7))) := eL1032 ▸ jg_eq
          clear eL1032
          refine jx_ld (pc_q := 80) (l_q := L1032) (st_q := [.int (i32 (0))]) rfl (jl_iloadn g1034) ?_
          refine jx_if_ne (pc_q := 83) (tg := 87) rfl rfl rfl (by decide) (by decide) (fun h1037 => ?_) (fun h1037 => ?_)
          · have _q := h1037
            exact absurd h1037 (by omega)
          · have _q := h1037
            refine jx_ld (pc_q := 84) (l_q := L1032) (st_q := [.int (i32 (7))]) rfl (jl_iloadn g1036) ?_
            refine jx_go (tg := 97) rfl rfl ?_
            refine jx_ld (pc_q := 99) (l_q := jSto1 L1032 4 (.int (i32 (7)))) (st_q := []) rfl rfl ?_
            obtain ⟨L1038, eL1038⟩ : ∃ q : jL, q = jSto1 L1032 4 (.int (i32 (7))) := ⟨_, rfl⟩
            rw [← eL1038]
            have g1039 : jGet L1038 0 = some (rv (me)) := eL1038 ▸ jg_nr (by decide) g1033
            have g1040 : jGet L1038 1 = some (.int (i32 (0))) := eL1038 ▸ jg_ne (by decide) g1034 rfl
            have g1041 : jGet L1038 2 = some (.int (i32 (1))) := eL1038 ▸ jg_ne (by decide) g1035 rfl
            have g1042 : jGet L1038 3 = some (.int (i32 (7))) := eL1038 ▸ jg_ne (by decide) g1036 rfl
            have g1043 : jGet L1038 4 = some (.int (i32 (7))) := eL1038 ▸ jg_eq
            clear eL1038
            refine jx_ld (pc_q := 100) (l_q := L1038) (st_q := [rv (me)]) rfl (jl_rvn g1039) ?_
            refine cx_gr (pc_q := 103) (c := 8) (q := 2) (v := F (me) (2 : Int)) rfl rfl (by decide) (by decide) rfl rfl ho1026.1 ho1026.2 (show F1002 (me) (2 : Int) = F (me) (2 : Int) from hM1005 _ _ o_me (own_z o_me) (by rw [t_me]; rfl)) ?_
            have y1044 : F (me) (2 : Int) = 0 ∨ (own m1001 (F (me) (2 : Int)) ∧ tg1001 (F (me) (2 : Int)) = 7) := by have z := HC_r (c := 8) (q := 2) hC1004 ho1026.1 ho1026.2 (by decide) rfl; rw [show F1002 (me) ((2 : Nat) : Int) = F (me) (2 : Int) from (show F1002 (me) (2 : Int) = F (me) (2 : Int) from hM1005 _ _ o_me (own_z o_me) (by rw [t_me]; rfl))] at z; exact z
            refine jx_ld (pc_q := 105) (l_q := jSto1 L1038 5 (rv (F (me) (2 : Int)))) (st_q := []) rfl (js_rv (by decide)) ?_
            obtain ⟨L1045, eL1045⟩ : ∃ q : jL, q = jSto1 L1038 5 (rv (F (me) (2 : Int))) := ⟨_, rfl⟩
            rw [← eL1045]
            have g1046 : jGet L1045 0 = some (rv (me)) := eL1045 ▸ jg_nr (by decide) g1039
            have g1047 : jGet L1045 1 = some (.int (i32 (0))) := eL1045 ▸ jg_ne (by decide) g1040 rfl
            have g1048 : jGet L1045 2 = some (.int (i32 (1))) := eL1045 ▸ jg_ne (by decide) g1041 rfl
            have g1049 : jGet L1045 3 = some (.int (i32 (7))) := eL1045 ▸ jg_ne (by decide) g1042 rfl
            have g1050 : jGet L1045 4 = some (.int (i32 (7))) := eL1045 ▸ jg_ne (by decide) g1043 rfl
            have g1051 : jGet L1045 5 = some (rv (F (me) (2 : Int))) := eL1045 ▸ jg_eq
            clear eL1045
            refine jx_ar (pc_q := 106) (st_q := .null :: []) rfl rfl rfl rfl ?_
            rw [← rv_0]
            refine jx_ld (pc_q := 108) (l_q := jSto1 L1045 6 (rv (0))) (st_q := []) rfl (js_rv (by decide)) ?_
            obtain ⟨L1052, eL1052⟩ : ∃ q : jL, q = jSto1 L1045 6 (rv (0)) := ⟨_, rfl⟩
            rw [← eL1052]
            have g1053 : jGet L1052 0 = some (rv (me)) := eL1052 ▸ jg_nr (by decide) g1046
            have g1054 : jGet L1052 1 = some (.int (i32 (0))) := eL1052 ▸ jg_ne (by decide) g1047 rfl
            have g1055 : jGet L1052 2 = some (.int (i32 (1))) := eL1052 ▸ jg_ne (by decide) g1048 rfl
            have g1056 : jGet L1052 3 = some (.int (i32 (7))) := eL1052 ▸ jg_ne (by decide) g1049 rfl
            have g1057 : jGet L1052 4 = some (.int (i32 (7))) := eL1052 ▸ jg_ne (by decide) g1050 rfl
            have g1058 : jGet L1052 5 = some (rv (F (me) (2 : Int))) := eL1052 ▸ jg_nr (by decide) g1051
            have g1059 : jGet L1052 6 = some (rv (0)) := eL1052 ▸ jg_eq
            clear eL1052
            refine jx_ar (pc_q := 109) (st_q := [.int (i32 (0))]) rfl rfl rfl rfl ?_
            refine jx_ld (pc_q := 111) (l_q := jSto1 L1052 7 (.int (i32 (0)))) (st_q := []) rfl rfl ?_
            obtain ⟨L1060, eL1060⟩ : ∃ q : jL, q = jSto1 L1052 7 (.int (i32 (0))) := ⟨_, rfl⟩
            rw [← eL1060]
            have g1061 : jGet L1060 0 = some (rv (me)) := eL1060 ▸ jg_nr (by decide) g1053
            have g1062 : jGet L1060 1 = some (.int (i32 (0))) := eL1060 ▸ jg_ne (by decide) g1054 rfl
            have g1063 : jGet L1060 2 = some (.int (i32 (1))) := eL1060 ▸ jg_ne (by decide) g1055 rfl
            have g1064 : jGet L1060 3 = some (.int (i32 (7))) := eL1060 ▸ jg_ne (by decide) g1056 rfl
            have g1065 : jGet L1060 4 = some (.int (i32 (7))) := eL1060 ▸ jg_ne (by decide) g1057 rfl
            have g1066 : jGet L1060 5 = some (rv (F (me) (2 : Int))) := eL1060 ▸ jg_nr (by decide) g1058
            have g1067 : jGet L1060 6 = some (rv (0)) := eL1060 ▸ jg_nr (by decide) g1059
            have g1068 : jGet L1060 7 = some (.int (i32 (0))) := eL1060 ▸ jg_eq
            clear eL1060
            have q1069 := tz_b (F1002 (sc) (15 : Int))
            have q1070 := lz_b (F1002 (sc) (14 : Int))
            have q1071 : F1002 (pg) (9 : Int) = F (pg) (9 : Int) := (show F1002 (pg) (9 : Int) = F (pg) (9 : Int) from hM1005 _ _ o_pg (own_z o_pg) (by rw [t_pg]; rfl))
            exact k_LParser_readDeclaration_at_111 (X := X) (d := d) (R := R) (m := m) (tg := tg) (ln := ln) (F := F) (me := me) (hd := hd) (hC := hC) (sc := sc) (pg := pg) (o_sc := o_sc) (t_sc := t_sc) (e_sc := e_sc) (o_pg := o_pg) (t_pg := t_pg) (e_pg := e_pg) (o_me := o_me) (t_me := t_me) (p_0 := p_0) (p_1 := p_1) (p_2 := p_2) (c_NP := c_NP) _ L1060 m1001 tg1001 ln1001 F1002 (0) (7) (0) (F (me) (2 : Int)) (0) (F (me) (2 : Int)) rfl g1061 g1062 g1065 g1068 g1066 g1067 hX1029 hC1004 hM1024 (by omega) (by omega) (by omega) y1044 (Or.inl rfl) (by omega) (by omega) (by omega) (by omega) (by omega) (by omega) (by omega) (by omega) (by omega) (by omega) (by omega) c1013 c1030 (show F1002 (me) (2 : Int) = F (me) (2 : Int) from hM1005 _ _ o_me (own_z o_me) (by rw [t_me]; rfl)) y1044
  · have _q := h913
    have t1072 : tz (F (sc) (15 : Int)) = 1 := tz_p (by omega)
    refine jx_ld (pc_q := 15) (l_q := L909) (st_q := [rv (me)]) rfl (jl_rvn g910) ?_
    refine cx_gr (pc_q := 18) (c := 8) (q := 1) (v := sc) rfl rfl (by decide) (by decide) rfl rfl o_me t_me e_sc ?_
    have q1073 := tz_b (F (sc) (15 : Int))
    have q1074 := lz_b (F (sc) (14 : Int))
    refine cx_vi (c := 10) (a := sc) (st := []) (as := []) rfl rfl rfl o_sc t_sc (by decide) rfl ⟨rfl, rfl, (Nat.le_of_ble_eq_true rfl)⟩ rfl (k_LScanner_next (dd := d) (R := R) (m := m) (tg := tg) (ln := ln) (F := F) (me := sc) (hd := by omega) (hC := hC) (o_me := o_sc) (t_me := t_sc) (p_0 := by omega) (p_1 := by omega)) (fun o V_q hq => ?_)
    obtain ⟨F1075, rfl, rfl, hC1076, hM1077, p1078, p1079, p1080, -⟩ := hq
    have hM1081 : Fq 0 [(7, 15), (9, 2), (9, 3), (10, 0), (10, 1), (10, 2), (10, 8), (11, 8), (11, 12), (11, 13), (11, 14), (11, 15), (11, 16), (11, 17), (11, 18)] m tg F F1075 := Fq_t (ln := ln) (ln1 := ln) hM0 hX0 hM1077 (by decide) (Or.inl rfl)
    have c1082 : NP m tg F1075 := NP_q hC c_NP hM1077 rfl rfl
    refine Or.inl ⟨rfl, ?_⟩
    refine jx_ld (pc_q := 22) (l_q := L909) (st_q := [rv (me)]) rfl (jl_rvn g910) ?_
    refine jx_ar (pc_q := 23) (st_q := [.int (i32 (1)), rv (me)]) rfl rfl rfl rfl ?_
    refine jx_ar (pc_q := 25) (st_q := [.int (i32 (64)), .int (i32 (1)), rv (me)]) rfl rfl rfl rfl ?_
    have q1083 := tz_b (F1075 (sc) (15 : Int))
    have q1084 : F1075 (sc) (7 : Int) = F (sc) (7 : Int) := (show F1075 (sc) (7 : Int) = F (sc) (7 : Int) from hM1077 _ _ o_sc (own_z o_sc) (by rw [t_sc]; rfl))
    have q1085 := lz_b (F1075 (sc) (14 : Int))
    have q1086 : F1075 (pg) (9 : Int) = F (pg) (9 : Int) := (show F1075 (pg) (9 : Int) = F (pg) (9 : Int) from hM1077 _ _ o_pg (own_z o_pg) (by rw [t_pg]; rfl))
    refine cx_vi (c := 8) (a := me) (st := []) (as := [.int (i32 (1)), .int (i32 (64))]) rfl rfl rfl o_me t_me (by decide) rfl ⟨rfl, rfl, (Nat.le_of_ble_eq_true rfl)⟩ rfl (k_LParser_readNumber (dd := d) (R := R) (m := m) (tg := tg) (ln := ln) (F := F1075) (me := me) (le := 1) (mo := 64) (hd := by omega) (hC := hC1076) (o_me := o_me) (t_me := t_me) (h_le := by omega) (h_mo := by omega) (sc := sc) (pg := pg) (o_sc := o_sc) (t_sc := t_sc) (e_sc := ((show F1075 (me) (1 : Int) = F (me) (1 : Int) from hM1077 _ _ o_me (own_z o_me) (by rw [t_me]; rfl)).trans e_sc)) (o_pg := o_pg) (t_pg := t_pg) (e_pg := ((show F1075 (me) (0 : Int) = F (me) (0 : Int) from hM1077 _ _ o_me (own_z o_me) (by rw [t_me]; rfl)).trans e_pg)) (p_0 := by omega) (p_1 := by omega) (p_2 := by omega) (c_NP := c1082)) (fun o V_q hq => ?_)
    obtain ⟨m1087, tg1087, ln1087, F1088, r1089, rfl, rfl, hx1090, hC1091, hM1092, b1093, p1094, p1095, p1096, p1097, p1098, p1099, p1100, p1101, p1102, p1103, c1104, c1105, -⟩ | ⟨m1106, tg1106, ln1106, F1106, x1106, rfl, rfl, hx1106, hC1106, hM1106, ho1106, ht1106, p1107, p1108, p1109, p1110, c1111, c1112, -⟩ := hq
    rotate_left
    ·
      have c1113 : NM m m1106 tg1106 := NM_t NM_0 hx1106 c1112
      have lm1114 := hx1106.1
      refine Or.inr (Or.inr (Or.inr ⟨_, _, rfl, cx_exc (c := 15) ho1106 ht1106 (by decide), rfl, ?_⟩))
      have q1115 : F1075 (sc) (7 : Int) = F (sc) (7 : Int) := q1084
      exact Or.inr ⟨m1106, tg1106, ln1106, F1106, x1106, rfl, rfl, Ex_t hX0 hx1106, hC1106, Fq_t (ln := ln) (ln1 := ln) hM1081 hX0 hM1106 (by decide) (Or.inl rfl), (And.intro ho1106 ht1106).1, (And.intro ho1106 ht1106).2, by omega, by omega, by omega, by omega, c1111, c1113, trivial⟩
    have hM1116 : Fq 0 [(7, 15), (9, 2), (9, 3), (10, 0), (10, 1), (10, 2), (10, 8), (11, 8), (11, 12), (11, 13), (11, 14), (11, 15), (11, 16), (11, 17), (11, 18)] m tg F F1088 := Fq_t (ln := ln) (ln1 := ln) hM1081 hX0 hM1092 (by decide) (Or.inl rfl)
    have lm1117 := hx1090.1
    have ho1118 : own m1087 (me) ∧ tg1087 (me) = 9 := Ex_o hx1090 ⟨o_me, t_me⟩
    have ho1119 : own m1087 (sc) ∧ tg1087 (sc) = 11 := Ex_o hx1090 ⟨o_sc, t_sc⟩
    have ho1120 : own m1087 (pg) ∧ tg1087 (pg) = 10 := Ex_o hx1090 ⟨o_pg, t_pg⟩
    have hX1121 := Ex_t hX0 hx1090
    have c1122 : NM m m1087 tg1087 := NM_t NM_0 hx1090 c1105
    refine Or.inr (Or.inl ⟨_, rfl, ?_⟩)
    refine jx_ld (pc_q := 29) (l_q := jSto1 L909 1 (.int (i32 (r1089)))) (st_q := []) rfl rfl ?_
    obtain ⟨L1123, eL1123⟩ : ∃ q : jL, q = jSto1 L909 1 (.int (i32 (r1089))) := ⟨_, rfl⟩
    rw [← eL1123]
    have g1124 : jGet L1123 0 = some (rv (me)) := eL1123 ▸ jg_nr (by decide) g910
    have g1125 : jGet L1123 1 = some (.int (i32 (r1089))) := eL1123 ▸ jg_eq
    clear eL1123
    refine jx_ld (pc_q := 30) (l_q := L1123) (st_q := [rv (me)]) rfl (jl_rvn g1124) ?_
    refine jx_ar (pc_q := 32) (st_q := [.int (i32 (57)), rv (me)]) rfl rfl rfl rfl ?_
    have q1126 := tz_b (F1088 (sc) (15 : Int))
    have q1127 : F1088 (sc) (7 : Int) = F (sc) (7 : Int) := ((show F1088 (sc) (7 : Int) = F1075 (sc) (7 : Int) from hM1092 _ _ o_sc (own_z o_sc) (by rw [t_sc]; rfl)).trans q1084)
    have q1128 := lz_b (F1088 (sc) (14 : Int))
    have q1129 : F1088 (pg) (9 : Int) = F (pg) (9 : Int) := ((show F1088 (pg) (9 : Int) = F1075 (pg) (9 : Int) from hM1092 _ _ o_pg (own_z o_pg) (by rw [t_pg]; rfl)).trans q1086)
    refine cx_vi (c := 8) (a := me) (st := []) (as := [.int (i32 (57))]) rfl rfl rfl ho1118.1 ho1118.2 (by decide) rfl ⟨rfl, rfl, (Nat.le_of_ble_eq_true rfl)⟩ rfl (k_LParser_expect (dd := d) (R := R) (m := m1087) (tg := tg1087) (ln := ln1087) (F := F1088) (me := me) (tk := 57) (hd := by omega) (hC := hC1091) (o_me := ho1118.1) (t_me := ho1118.2) (h_tk := by omega) (sc := sc) (pg := pg) (o_sc := ho1119.1) (t_sc := ho1119.2) (e_sc := (((show F1088 (me) (1 : Int) = F1075 (me) (1 : Int) from hM1092 _ _ o_me (own_z o_me) (by rw [t_me]; rfl)).trans (show F1075 (me) (1 : Int) = F (me) (1 : Int) from hM1077 _ _ o_me (own_z o_me) (by rw [t_me]; rfl))).trans e_sc)) (o_pg := ho1120.1) (t_pg := ho1120.2) (e_pg := (((show F1088 (me) (0 : Int) = F1075 (me) (0 : Int) from hM1092 _ _ o_me (own_z o_me) (by rw [t_me]; rfl)).trans (show F1075 (me) (0 : Int) = F (me) (0 : Int) from hM1077 _ _ o_me (own_z o_me) (by rw [t_me]; rfl))).trans e_pg)) (p_0 := by omega) (p_1 := by omega) (p_2 := by omega) (p_3 := by omega) (c_NP := c1104)) (fun o V_q hq => ?_)
    obtain ⟨m1130, tg1130, ln1130, F1131, rfl, rfl, hx1132, hC1133, hM1134, p1135, p1136, p1137, p1138, p1139, p1140, p1141, c1142, c1143, -⟩ | ⟨m1144, tg1144, ln1144, F1144, x1144, rfl, rfl, hx1144, hC1144, hM1144, ho1144, ht1144, p1145, p1146, p1147, p1148, c1149, c1150, -⟩ := hq
    rotate_left
    ·
      have c1151 : NM m m1144 tg1144 := NM_t c1122 hx1144 c1150
      have lm1152 := hx1144.1
      refine Or.inr (Or.inr (Or.inr ⟨_, _, rfl, cx_exc (c := 15) ho1144 ht1144 (by decide), rfl, ?_⟩))
      have q1153 : F1088 (sc) (7 : Int) = F (sc) (7 : Int) := q1127
      exact Or.inr ⟨m1144, tg1144, ln1144, F1144, x1144, rfl, rfl, Ex_t hX1121 hx1144, hC1144, Fq_t (ln := ln) (ln1 := ln1087) hM1116 hX1121 hM1144 (by decide) (Or.inl rfl), (And.intro ho1144 ht1144).1, (And.intro ho1144 ht1144).2, by omega, by omega, by omega, by omega, c1149, c1151, trivial⟩
    have hM1154 : Fq 0 [(7, 15), (9, 2), (9, 3), (10, 0), (10, 1), (10, 2), (10, 8), (11, 8), (11, 12), (11, 13), (11, 14), (11, 15), (11, 16), (11, 17), (11, 18)] m tg F F1131 := Fq_t (ln := ln) (ln1 := ln1087) hM1116 hX1121 hM1134 (by decide) (Or.inl rfl)
    have lm1155 := hx1132.1
    have ho1156 : own m1130 (me) ∧ tg1130 (me) = 9 := Ex_o hx1132 ⟨ho1118.1, ho1118.2⟩
    have ho1157 : own m1130 (sc) ∧ tg1130 (sc) = 11 := Ex_o hx1132 ⟨ho1119.1, ho1119.2⟩
    have ho1158 : own m1130 (pg) ∧ tg1130 (pg) = 10 := Ex_o hx1132 ⟨ho1120.1, ho1120.2⟩
    have hX1159 := Ex_t hX1121 hx1132
    have c1160 : NM m m1130 tg1130 := NM_t c1122 hx1132 c1143
    refine Or.inl ⟨rfl, ?_⟩
    refine jx_ld (pc_q := 36) (l_q := L1123) (st_q := [rv (me)]) rfl (jl_rvn g1124) ?_
    refine cx_gr (pc_q := 39) (c := 8) (q := 1) (v := sc) rfl rfl (by decide) (by decide) rfl rfl ho1156.1 ho1156.2 (((show F1131 (me) (1 : Int) = F1088 (me) (1 : Int) from hM1134 _ _ ho1118.1 (own_z ho1118.1) (by rw [ho1118.2]; rfl)).trans ((show F1088 (me) (1 : Int) = F1075 (me) (1 : Int) from hM1092 _ _ o_me (own_z o_me) (by rw [t_me]; rfl)).trans (show F1075 (me) (1 : Int) = F (me) (1 : Int) from hM1077 _ _ o_me (own_z o_me) (by rw [t_me]; rfl)))).trans e_sc) ?_
    refine cx_gi (pc_q := 42) (c := 10) (q := 15) (v := F1131 (sc) (15 : Int)) rfl rfl (by decide) (by decide) (Or.inl rfl) rfl ho1157.1 ho1157.2 rfl ?_
    have b1161 : (-2147483648 : Int) ≤ F1131 (sc) (15 : Int) ∧ F1131 (sc) (15 : Int) ≤ 2147483647 := by have z := HC_i (c := 10) (q := 15) hC1133 ho1157.1 ho1157.2 (by decide) rfl; rw [show F1131 (sc) ((15 : Nat) : Int) = F1131 (sc) (15 : Int) from rfl] at z; exact z
    refine jx_ar (pc_q := 44) (st_q := [.int (i32 (19)), .int (i32 (F1131 (sc) (15 : Int)))]) rfl rfl rfl rfl ?_
    refine jx_icmp_ne (pc_q := 47) (tg := 51) rfl rfl rfl (by omega) (by omega) (by decide) (by decide) (fun h1162 => ?_) (fun h1162 => ?_)
    · have _q := h1162
      refine jx_ar (pc_q := 52) (st_q := [.int (i32 (0))]) rfl rfl rfl rfl ?_
      refine jx_ld (pc_q := 53) (l_q := jSto1 L1123 2 (.int (i32 (0)))) (st_q := []) rfl rfl ?_
      obtain ⟨L1163, eL1163⟩ : ∃ q : jL, q = jSto1 L1123 2 (.int (i32 (0))) := ⟨_, rfl⟩
      rw [← eL1163]
      have g1164 : jGet L1163 0 = some (rv (me)) := eL1163 ▸ jg_nr (by decide) g1124
      have g1165 : jGet L1163 1 = some (.int (i32 (r1089))) := eL1163 ▸ jg_ne (by decide) g1125 rfl
      have g1166 : jGet L1163 2 = some (.int (i32 (0))) := eL1163 ▸ jg_eq
      clear eL1163
      refine jx_ld (pc_q := 54) (l_q := L1163) (st_q := [rv (me)]) rfl (jl_rvn g1164) ?_
      refine jx_ld (pc_q := 55) (l_q := L1163) (st_q := [.int (i32 (0)), rv (me)]) rfl (jl_iloadn g1166) ?_
      refine jx_if_eq (pc_q := 58) (tg := 63) rfl rfl rfl (by decide) (by decide) (fun h1167 => ?_) (fun h1167 => ?_)
      · have _q := h1167
        refine jx_ar (pc_q := 65) (st_q := [.int (i32 (18)), rv (me)]) rfl rfl rfl rfl ?_
        have q1168 := tz_b (F1131 (sc) (15 : Int))
        have q1169 : F1131 (sc) (7 : Int) = F (sc) (7 : Int) := ((show F1131 (sc) (7 : Int) = F1088 (sc) (7 : Int) from hM1134 _ _ ho1119.1 (own_z ho1119.1) (by rw [ho1119.2]; rfl)).trans q1127)
        have q1170 := lz_b (F1131 (sc) (14 : Int))
        have q1171 : F1131 (pg) (9 : Int) = F (pg) (9 : Int) := ((show F1131 (pg) (9 : Int) = F1088 (pg) (9 : Int) from hM1134 _ _ ho1120.1 (own_z ho1120.1) (by rw [ho1120.2]; rfl)).trans q1129)
        refine cx_vi (c := 8) (a := me) (st := []) (as := [.int (i32 (18))]) rfl rfl rfl ho1156.1 ho1156.2 (by decide) rfl ⟨rfl, rfl, (Nat.le_of_ble_eq_true rfl)⟩ rfl (k_LParser_expect (dd := d) (R := R) (m := m1130) (tg := tg1130) (ln := ln1130) (F := F1131) (me := me) (tk := 18) (hd := by omega) (hC := hC1133) (o_me := ho1156.1) (t_me := ho1156.2) (h_tk := by omega) (sc := sc) (pg := pg) (o_sc := ho1157.1) (t_sc := ho1157.2) (e_sc := (((show F1131 (me) (1 : Int) = F1088 (me) (1 : Int) from hM1134 _ _ ho1118.1 (own_z ho1118.1) (by rw [ho1118.2]; rfl)).trans ((show F1088 (me) (1 : Int) = F1075 (me) (1 : Int) from hM1092 _ _ o_me (own_z o_me) (by rw [t_me]; rfl)).trans (show F1075 (me) (1 : Int) = F (me) (1 : Int) from hM1077 _ _ o_me (own_z o_me) (by rw [t_me]; rfl)))).trans e_sc)) (o_pg := ho1158.1) (t_pg := ho1158.2) (e_pg := (((show F1131 (me) (0 : Int) = F1088 (me) (0 : Int) from hM1134 _ _ ho1118.1 (own_z ho1118.1) (by rw [ho1118.2]; rfl)).trans ((show F1088 (me) (0 : Int) = F1075 (me) (0 : Int) from hM1092 _ _ o_me (own_z o_me) (by rw [t_me]; rfl)).trans (show F1075 (me) (0 : Int) = F (me) (0 : Int) from hM1077 _ _ o_me (own_z o_me) (by rw [t_me]; rfl)))).trans e_pg)) (p_0 := by omega) (p_1 := by omega) (p_2 := by omega) (p_3 := by omega) (c_NP := c1142)) (fun o V_q hq => ?_)
        obtain ⟨m1172, tg1172, ln1172, F1173, rfl, rfl, hx1174, hC1175, hM1176, p1177, p1178, p1179, p1180, p1181, p1182, p1183, c1184, c1185, -⟩ | ⟨m1186, tg1186, ln1186, F1186, x1186, rfl, rfl, hx1186, hC1186, hM1186, ho1186, ht1186, p1187, p1188, p1189, p1190, c1191, c1192, -⟩ := hq
        rotate_left
        ·
          have c1193 : NM m m1186 tg1186 := NM_t c1160 hx1186 c1192
          have lm1194 := hx1186.1
          refine Or.inr (Or.inr (Or.inr ⟨_, _, rfl, cx_exc (c := 15) ho1186 ht1186 (by decide), rfl, ?_⟩))
          have q1195 : F1131 (sc) (7 : Int) = F (sc) (7 : Int) := q1169
          exact Or.inr ⟨m1186, tg1186, ln1186, F1186, x1186, rfl, rfl, Ex_t hX1159 hx1186, hC1186, Fq_t (ln := ln) (ln1 := ln1130) hM1154 hX1159 hM1186 (by decide) (Or.inl rfl), (And.intro ho1186 ht1186).1, (And.intro ho1186 ht1186).2, by omega, by omega, by omega, by omega, c1191, c1193, trivial⟩
        have hM1196 : Fq 0 [(7, 15), (9, 2), (9, 3), (10, 0), (10, 1), (10, 2), (10, 8), (11, 8), (11, 12), (11, 13), (11, 14), (11, 15), (11, 16), (11, 17), (11, 18)] m tg F F1173 := Fq_t (ln := ln) (ln1 := ln1130) hM1154 hX1159 hM1176 (by decide) (Or.inl rfl)
        have lm1197 := hx1174.1
        have ho1198 : own m1172 (me) ∧ tg1172 (me) = 9 := Ex_o hx1174 ⟨ho1156.1, ho1156.2⟩
        have ho1199 : own m1172 (sc) ∧ tg1172 (sc) = 11 := Ex_o hx1174 ⟨ho1157.1, ho1157.2⟩
        have ho1200 : own m1172 (pg) ∧ tg1172 (pg) = 10 := Ex_o hx1174 ⟨ho1158.1, ho1158.2⟩
        have hX1201 := Ex_t hX1159 hx1174
        have c1202 : NM m m1172 tg1172 := NM_t c1160 hx1174 c1185
        refine Or.inl ⟨rfl, ?_⟩
        refine jx_ld (pc_q := 69) (l_q := L1163) (st_q := [.int (i32 (0))]) rfl (jl_iloadn g1166) ?_
        refine jx_if_eq (pc_q := 72) (tg := 77) rfl rfl rfl (by decide) (by decide) (fun h1203 => ?_) (fun h1203 => ?_)
        · have _q := h1203
          refine jx_ar (pc_q := 78) (st_q := [.int (i32 (0))]) rfl rfl rfl rfl ?_
          refine jx_ld (pc_q := 79) (l_q := jSto1 L1163 3 (.int (i32 (0)))) (st_q := []) rfl rfl ?_
          obtain ⟨L1204, eL1204⟩ : ∃ q : jL, q = jSto1 L1163 3 (.int (i32 (0))) := ⟨_, rfl⟩
          rw [← eL1204]
          have g1205 : jGet L1204 0 = some (rv (me)) := eL1204 ▸ jg_nr (by decide) g1164
          have g1206 : jGet L1204 1 = some (.int (i32 (r1089))) := eL1204 ▸ jg_ne (by decide) g1165 rfl
          have g1207 : jGet L1204 2 = some (.int (i32 (0))) := eL1204 ▸ jg_ne (by decide) g1166 rfl
          have g1208 : jGet L1204 3 = some (.int (i32 (0))) := eL1204 ▸ jg_eq
          clear eL1204
          refine jx_ld (pc_q := 80) (l_q := L1204) (st_q := [.int (i32 (r1089))]) rfl (jl_iloadn g1206) ?_
          refine jx_if_ne (pc_q := 83) (tg := 87) rfl rfl rfl (by omega) (by omega) (fun h1209 => ?_) (fun h1209 => ?_)
          · have _q := h1209
            refine jx_ld (pc_q := 88) (l_q := L1204) (st_q := [.int (i32 (0))]) rfl (jl_iloadn g1207) ?_
            refine jx_if_eq (pc_q := 91) (tg := 96) rfl rfl rfl (by decide) (by decide) (fun h1210 => ?_) (fun h1210 => ?_)
            · have _q := h1210
              refine jx_ar (pc_q := 97) (st_q := [.int (i32 (5))]) rfl rfl rfl rfl ?_
              refine jx_ld (pc_q := 99) (l_q := jSto1 L1204 4 (.int (i32 (5)))) (st_q := []) rfl rfl ?_
              obtain ⟨L1211, eL1211⟩ : ∃ q : jL, q = jSto1 L1204 4 (.int (i32 (5))) := ⟨_, rfl⟩
              rw [← eL1211]
              have g1212 : jGet L1211 0 = some (rv (me)) := eL1211 ▸ jg_nr (by decide) g1205
              have g1213 : jGet L1211 1 = some (.int (i32 (r1089))) := eL1211 ▸ jg_ne (by decide) g1206 rfl
              have g1214 : jGet L1211 2 = some (.int (i32 (0))) := eL1211 ▸ jg_ne (by decide) g1207 rfl
              have g1215 : jGet L1211 3 = some (.int (i32 (0))) := eL1211 ▸ jg_ne (by decide) g1208 rfl
              have g1216 : jGet L1211 4 = some (.int (i32 (5))) := eL1211 ▸ jg_eq
              clear eL1211
              refine jx_ld (pc_q := 100) (l_q := L1211) (st_q := [rv (me)]) rfl (jl_rvn g1212) ?_
              refine cx_gr (pc_q := 103) (c := 8) (q := 2) (v := F (me) (2 : Int)) rfl rfl (by decide) (by decide) rfl rfl ho1198.1 ho1198.2 ((show F1173 (me) (2 : Int) = F1131 (me) (2 : Int) from hM1176 _ _ ho1156.1 (own_z ho1156.1) (by rw [ho1156.2]; rfl)).trans ((show F1131 (me) (2 : Int) = F1088 (me) (2 : Int) from hM1134 _ _ ho1118.1 (own_z ho1118.1) (by rw [ho1118.2]; rfl)).trans ((show F1088 (me) (2 : Int) = F1075 (me) (2 : Int) from hM1092 _ _ o_me (own_z o_me) (by rw [t_me]; rfl)).trans (show F1075 (me) (2 : Int) = F (me) (2 : Int) from hM1077 _ _ o_me (own_z o_me) (by rw [t_me]; rfl))))) ?_
              have y1217 : F (me) (2 : Int) = 0 ∨ (own m1172 (F (me) (2 : Int)) ∧ tg1172 (F (me) (2 : Int)) = 7) := by have z := HC_r (c := 8) (q := 2) hC1175 ho1198.1 ho1198.2 (by decide) rfl; rw [show F1173 (me) ((2 : Nat) : Int) = F (me) (2 : Int) from ((show F1173 (me) (2 : Int) = F1131 (me) (2 : Int) from hM1176 _ _ ho1156.1 (own_z ho1156.1) (by rw [ho1156.2]; rfl)).trans ((show F1131 (me) (2 : Int) = F1088 (me) (2 : Int) from hM1134 _ _ ho1118.1 (own_z ho1118.1) (by rw [ho1118.2]; rfl)).trans ((show F1088 (me) (2 : Int) = F1075 (me) (2 : Int) from hM1092 _ _ o_me (own_z o_me) (by rw [t_me]; rfl)).trans (show F1075 (me) (2 : Int) = F (me) (2 : Int) from hM1077 _ _ o_me (own_z o_me) (by rw [t_me]; rfl)))))] at z; exact z
              refine jx_ld (pc_q := 105) (l_q := jSto1 L1211 5 (rv (F (me) (2 : Int)))) (st_q := []) rfl (js_rv (by decide)) ?_
              obtain ⟨L1218, eL1218⟩ : ∃ q : jL, q = jSto1 L1211 5 (rv (F (me) (2 : Int))) := ⟨_, rfl⟩
              rw [← eL1218]
              have g1219 : jGet L1218 0 = some (rv (me)) := eL1218 ▸ jg_nr (by decide) g1212
              have g1220 : jGet L1218 1 = some (.int (i32 (r1089))) := eL1218 ▸ jg_ne (by decide) g1213 rfl
              have g1221 : jGet L1218 2 = some (.int (i32 (0))) := eL1218 ▸ jg_ne (by decide) g1214 rfl
              have g1222 : jGet L1218 3 = some (.int (i32 (0))) := eL1218 ▸ jg_ne (by decide) g1215 rfl
              have g1223 : jGet L1218 4 = some (.int (i32 (5))) := eL1218 ▸ jg_ne (by decide) g1216 rfl
              have g1224 : jGet L1218 5 = some (rv (F (me) (2 : Int))) := eL1218 ▸ jg_eq
              clear eL1218
              refine jx_ar (pc_q := 106) (st_q := .null :: []) rfl rfl rfl rfl ?_
              rw [← rv_0]
              refine jx_ld (pc_q := 108) (l_q := jSto1 L1218 6 (rv (0))) (st_q := []) rfl (js_rv (by decide)) ?_
              obtain ⟨L1225, eL1225⟩ : ∃ q : jL, q = jSto1 L1218 6 (rv (0)) := ⟨_, rfl⟩
              rw [← eL1225]
              have g1226 : jGet L1225 0 = some (rv (me)) := eL1225 ▸ jg_nr (by decide) g1219
              have g1227 : jGet L1225 1 = some (.int (i32 (r1089))) := eL1225 ▸ jg_ne (by decide) g1220 rfl
              have g1228 : jGet L1225 2 = some (.int (i32 (0))) := eL1225 ▸ jg_ne (by decide) g1221 rfl
              have g1229 : jGet L1225 3 = some (.int (i32 (0))) := eL1225 ▸ jg_ne (by decide) g1222 rfl
              have g1230 : jGet L1225 4 = some (.int (i32 (5))) := eL1225 ▸ jg_ne (by decide) g1223 rfl
              have g1231 : jGet L1225 5 = some (rv (F (me) (2 : Int))) := eL1225 ▸ jg_nr (by decide) g1224
              have g1232 : jGet L1225 6 = some (rv (0)) := eL1225 ▸ jg_eq
              clear eL1225
              refine jx_ar (pc_q := 109) (st_q := [.int (i32 (0))]) rfl rfl rfl rfl ?_
              refine jx_ld (pc_q := 111) (l_q := jSto1 L1225 7 (.int (i32 (0)))) (st_q := []) rfl rfl ?_
              obtain ⟨L1233, eL1233⟩ : ∃ q : jL, q = jSto1 L1225 7 (.int (i32 (0))) := ⟨_, rfl⟩
              rw [← eL1233]
              have g1234 : jGet L1233 0 = some (rv (me)) := eL1233 ▸ jg_nr (by decide) g1226
              have g1235 : jGet L1233 1 = some (.int (i32 (r1089))) := eL1233 ▸ jg_ne (by decide) g1227 rfl
              have g1236 : jGet L1233 2 = some (.int (i32 (0))) := eL1233 ▸ jg_ne (by decide) g1228 rfl
              have g1237 : jGet L1233 3 = some (.int (i32 (0))) := eL1233 ▸ jg_ne (by decide) g1229 rfl
              have g1238 : jGet L1233 4 = some (.int (i32 (5))) := eL1233 ▸ jg_ne (by decide) g1230 rfl
              have g1239 : jGet L1233 5 = some (rv (F (me) (2 : Int))) := eL1233 ▸ jg_nr (by decide) g1231
              have g1240 : jGet L1233 6 = some (rv (0)) := eL1233 ▸ jg_nr (by decide) g1232
              have g1241 : jGet L1233 7 = some (.int (i32 (0))) := eL1233 ▸ jg_eq
              clear eL1233
              have q1242 := tz_b (F1173 (sc) (15 : Int))
              have q1243 := lz_b (F1173 (sc) (14 : Int))
              have q1244 : F1173 (pg) (9 : Int) = F (pg) (9 : Int) := ((show F1173 (pg) (9 : Int) = F1131 (pg) (9 : Int) from hM1176 _ _ ho1158.1 (own_z ho1158.1) (by rw [ho1158.2]; rfl)).trans q1171)
              exact k_LParser_readDeclaration_at_111 (X := X) (d := d) (R := R) (m := m) (tg := tg) (ln := ln) (F := F) (me := me) (hd := hd) (hC := hC) (sc := sc) (pg := pg) (o_sc := o_sc) (t_sc := t_sc) (e_sc := e_sc) (o_pg := o_pg) (t_pg := t_pg) (e_pg := e_pg) (o_me := o_me) (t_me := t_me) (p_0 := p_0) (p_1 := p_1) (p_2 := p_2) (c_NP := c_NP) _ L1233 m1172 tg1172 ln1172 F1173 (r1089) (5) (0) (F (me) (2 : Int)) (0) (F (me) (2 : Int)) rfl g1234 g1235 g1238 g1241 g1239 g1240 hX1201 hC1175 hM1196 (by omega) (by omega) (by omega) y1217 (Or.inl rfl) (by omega) (by omega) (by omega) (by omega) (by omega) (by omega) (by omega) (by omega) (by omega) (by omega) (by omega) c1184 c1202 ((show F1173 (me) (2 : Int) = F1131 (me) (2 : Int) from hM1176 _ _ ho1156.1 (own_z ho1156.1) (by rw [ho1156.2]; rfl)).trans ((show F1131 (me) (2 : Int) = F1088 (me) (2 : Int) from hM1134 _ _ ho1118.1 (own_z ho1118.1) (by rw [ho1118.2]; rfl)).trans ((show F1088 (me) (2 : Int) = F1075 (me) (2 : Int) from hM1092 _ _ o_me (own_z o_me) (by rw [t_me]; rfl)).trans (show F1075 (me) (2 : Int) = F (me) (2 : Int) from hM1077 _ _ o_me (own_z o_me) (by rw [t_me]; rfl))))) y1217
            · have _q := h1210
              exact absurd h1210 (by omega)
          · have _q := h1209
            refine jx_ld (pc_q := 84) (l_q := L1204) (st_q := [.int (i32 (0))]) rfl (jl_iloadn g1208) ?_
            refine jx_go (tg := 97) rfl rfl ?_
            refine jx_ld (pc_q := 99) (l_q := jSto1 L1204 4 (.int (i32 (0)))) (st_q := []) rfl rfl ?_
            obtain ⟨L1245, eL1245⟩ : ∃ q : jL, q = jSto1 L1204 4 (.int (i32 (0))) := ⟨_, rfl⟩
            rw [← eL1245]
            have g1246 : jGet L1245 0 = some (rv (me)) := eL1245 ▸ jg_nr (by decide) g1205
            have g1247 : jGet L1245 1 = some (.int (i32 (r1089))) := eL1245 ▸ jg_ne (by decide) g1206 rfl
            have g1248 : jGet L1245 2 = some (.int (i32 (0))) := eL1245 ▸ jg_ne (by decide) g1207 rfl
            have g1249 : jGet L1245 3 = some (.int (i32 (0))) := eL1245 ▸ jg_ne (by decide) g1208 rfl
            have g1250 : jGet L1245 4 = some (.int (i32 (0))) := eL1245 ▸ jg_eq
            clear eL1245
            refine jx_ld (pc_q := 100) (l_q := L1245) (st_q := [rv (me)]) rfl (jl_rvn g1246) ?_
            refine cx_gr (pc_q := 103) (c := 8) (q := 2) (v := F (me) (2 : Int)) rfl rfl (by decide) (by decide) rfl rfl ho1198.1 ho1198.2 ((show F1173 (me) (2 : Int) = F1131 (me) (2 : Int) from hM1176 _ _ ho1156.1 (own_z ho1156.1) (by rw [ho1156.2]; rfl)).trans ((show F1131 (me) (2 : Int) = F1088 (me) (2 : Int) from hM1134 _ _ ho1118.1 (own_z ho1118.1) (by rw [ho1118.2]; rfl)).trans ((show F1088 (me) (2 : Int) = F1075 (me) (2 : Int) from hM1092 _ _ o_me (own_z o_me) (by rw [t_me]; rfl)).trans (show F1075 (me) (2 : Int) = F (me) (2 : Int) from hM1077 _ _ o_me (own_z o_me) (by rw [t_me]; rfl))))) ?_
            have y1251 : F (me) (2 : Int) = 0 ∨ (own m1172 (F (me) (2 : Int)) ∧ tg1172 (F (me) (2 : Int)) = 7) := by have z := HC_r (c := 8) (q := 2) hC1175 ho1198.1 ho1198.2 (by decide) rfl; rw [show F1173 (me) ((2 : Nat) : Int) = F (me) (2 : Int) from ((show F1173 (me) (2 : Int) = F1131 (me) (2 : Int) from hM1176 _ _ ho1156.1 (own_z ho1156.1) (by rw [ho1156.2]; rfl)).trans ((show F1131 (me) (2 : Int) = F1088 (me) (2 : Int) from hM1134 _ _ ho1118.1 (own_z ho1118.1) (by rw [ho1118.2]; rfl)).trans ((show F1088 (me) (2 : Int) = F1075 (me) (2 : Int) from hM1092 _ _ o_me (own_z o_me) (by rw [t_me]; rfl)).trans (show F1075 (me) (2 : Int) = F (me) (2 : Int) from hM1077 _ _ o_me (own_z o_me) (by rw [t_me]; rfl)))))] at z; exact z
            refine jx_ld (pc_q := 105) (l_q := jSto1 L1245 5 (rv (F (me) (2 : Int)))) (st_q := []) rfl (js_rv (by decide)) ?_
            obtain ⟨L1252, eL1252⟩ : ∃ q : jL, q = jSto1 L1245 5 (rv (F (me) (2 : Int))) := ⟨_, rfl⟩
            rw [← eL1252]
            have g1253 : jGet L1252 0 = some (rv (me)) := eL1252 ▸ jg_nr (by decide) g1246
            have g1254 : jGet L1252 1 = some (.int (i32 (r1089))) := eL1252 ▸ jg_ne (by decide) g1247 rfl
            have g1255 : jGet L1252 2 = some (.int (i32 (0))) := eL1252 ▸ jg_ne (by decide) g1248 rfl
            have g1256 : jGet L1252 3 = some (.int (i32 (0))) := eL1252 ▸ jg_ne (by decide) g1249 rfl
            have g1257 : jGet L1252 4 = some (.int (i32 (0))) := eL1252 ▸ jg_ne (by decide) g1250 rfl
            have g1258 : jGet L1252 5 = some (rv (F (me) (2 : Int))) := eL1252 ▸ jg_eq
            clear eL1252
            refine jx_ar (pc_q := 106) (st_q := .null :: []) rfl rfl rfl rfl ?_
            rw [← rv_0]
            refine jx_ld (pc_q := 108) (l_q := jSto1 L1252 6 (rv (0))) (st_q := []) rfl (js_rv (by decide)) ?_
            obtain ⟨L1259, eL1259⟩ : ∃ q : jL, q = jSto1 L1252 6 (rv (0)) := ⟨_, rfl⟩
            rw [← eL1259]
            have g1260 : jGet L1259 0 = some (rv (me)) := eL1259 ▸ jg_nr (by decide) g1253
            have g1261 : jGet L1259 1 = some (.int (i32 (r1089))) := eL1259 ▸ jg_ne (by decide) g1254 rfl
            have g1262 : jGet L1259 2 = some (.int (i32 (0))) := eL1259 ▸ jg_ne (by decide) g1255 rfl
            have g1263 : jGet L1259 3 = some (.int (i32 (0))) := eL1259 ▸ jg_ne (by decide) g1256 rfl
            have g1264 : jGet L1259 4 = some (.int (i32 (0))) := eL1259 ▸ jg_ne (by decide) g1257 rfl
            have g1265 : jGet L1259 5 = some (rv (F (me) (2 : Int))) := eL1259 ▸ jg_nr (by decide) g1258
            have g1266 : jGet L1259 6 = some (rv (0)) := eL1259 ▸ jg_eq
            clear eL1259
            refine jx_ar (pc_q := 109) (st_q := [.int (i32 (0))]) rfl rfl rfl rfl ?_
            refine jx_ld (pc_q := 111) (l_q := jSto1 L1259 7 (.int (i32 (0)))) (st_q := []) rfl rfl ?_
            obtain ⟨L1267, eL1267⟩ : ∃ q : jL, q = jSto1 L1259 7 (.int (i32 (0))) := ⟨_, rfl⟩
            rw [← eL1267]
            have g1268 : jGet L1267 0 = some (rv (me)) := eL1267 ▸ jg_nr (by decide) g1260
            have g1269 : jGet L1267 1 = some (.int (i32 (r1089))) := eL1267 ▸ jg_ne (by decide) g1261 rfl
            have g1270 : jGet L1267 2 = some (.int (i32 (0))) := eL1267 ▸ jg_ne (by decide) g1262 rfl
            have g1271 : jGet L1267 3 = some (.int (i32 (0))) := eL1267 ▸ jg_ne (by decide) g1263 rfl
            have g1272 : jGet L1267 4 = some (.int (i32 (0))) := eL1267 ▸ jg_ne (by decide) g1264 rfl
            have g1273 : jGet L1267 5 = some (rv (F (me) (2 : Int))) := eL1267 ▸ jg_nr (by decide) g1265
            have g1274 : jGet L1267 6 = some (rv (0)) := eL1267 ▸ jg_nr (by decide) g1266
            have g1275 : jGet L1267 7 = some (.int (i32 (0))) := eL1267 ▸ jg_eq
            clear eL1267
            have q1276 := tz_b (F1173 (sc) (15 : Int))
            have q1277 := lz_b (F1173 (sc) (14 : Int))
            have q1278 : F1173 (pg) (9 : Int) = F (pg) (9 : Int) := ((show F1173 (pg) (9 : Int) = F1131 (pg) (9 : Int) from hM1176 _ _ ho1158.1 (own_z ho1158.1) (by rw [ho1158.2]; rfl)).trans q1171)
            exact k_LParser_readDeclaration_at_111 (X := X) (d := d) (R := R) (m := m) (tg := tg) (ln := ln) (F := F) (me := me) (hd := hd) (hC := hC) (sc := sc) (pg := pg) (o_sc := o_sc) (t_sc := t_sc) (e_sc := e_sc) (o_pg := o_pg) (t_pg := t_pg) (e_pg := e_pg) (o_me := o_me) (t_me := t_me) (p_0 := p_0) (p_1 := p_1) (p_2 := p_2) (c_NP := c_NP) _ L1267 m1172 tg1172 ln1172 F1173 (r1089) (0) (0) (F (me) (2 : Int)) (0) (F (me) (2 : Int)) rfl g1268 g1269 g1272 g1275 g1273 g1274 hX1201 hC1175 hM1196 (by omega) (by omega) (by omega) y1251 (Or.inl rfl) (by omega) (by omega) (by omega) (by omega) (by omega) (by omega) (by omega) (by omega) (by omega) (by omega) (by omega) c1184 c1202 ((show F1173 (me) (2 : Int) = F1131 (me) (2 : Int) from hM1176 _ _ ho1156.1 (own_z ho1156.1) (by rw [ho1156.2]; rfl)).trans ((show F1131 (me) (2 : Int) = F1088 (me) (2 : Int) from hM1134 _ _ ho1118.1 (own_z ho1118.1) (by rw [ho1118.2]; rfl)).trans ((show F1088 (me) (2 : Int) = F1075 (me) (2 : Int) from hM1092 _ _ o_me (own_z o_me) (by rw [t_me]; rfl)).trans (show F1075 (me) (2 : Int) = F (me) (2 : Int) from hM1077 _ _ o_me (own_z o_me) (by rw [t_me]; rfl))))) y1251
        · have _q := h1203
          exact absurd h1203 (by omega)
      · have _q := h1167
        exact absurd h1167 (by omega)
    · have _q := h1162
      have t1279 : tz (F1131 (sc) (15 : Int)) = 1 := tz_p (by omega)
      refine jx_ar (pc_q := 48) (st_q := [.int (i32 (1))]) rfl rfl rfl rfl ?_
      refine jx_go (tg := 52) rfl rfl ?_
      refine jx_ld (pc_q := 53) (l_q := jSto1 L1123 2 (.int (i32 (1)))) (st_q := []) rfl rfl ?_
      obtain ⟨L1280, eL1280⟩ : ∃ q : jL, q = jSto1 L1123 2 (.int (i32 (1))) := ⟨_, rfl⟩
      rw [← eL1280]
      have g1281 : jGet L1280 0 = some (rv (me)) := eL1280 ▸ jg_nr (by decide) g1124
      have g1282 : jGet L1280 1 = some (.int (i32 (r1089))) := eL1280 ▸ jg_ne (by decide) g1125 rfl
      have g1283 : jGet L1280 2 = some (.int (i32 (1))) := eL1280 ▸ jg_eq
      clear eL1280
      refine jx_ld (pc_q := 54) (l_q := L1280) (st_q := [rv (me)]) rfl (jl_rvn g1281) ?_
      refine jx_ld (pc_q := 55) (l_q := L1280) (st_q := [.int (i32 (1)), rv (me)]) rfl (jl_iloadn g1283) ?_
      refine jx_if_eq (pc_q := 58) (tg := 63) rfl rfl rfl (by decide) (by decide) (fun h1284 => ?_) (fun h1284 => ?_)
      · have _q := h1284
        exact absurd h1284 (by omega)
      · have _q := h1284
        refine jx_ar (pc_q := 60) (st_q := [.int (i32 (19)), rv (me)]) rfl rfl rfl rfl ?_
        refine jx_go (tg := 65) rfl rfl ?_
        have q1285 := tz_b (F1131 (sc) (15 : Int))
        have q1286 : F1131 (sc) (7 : Int) = F (sc) (7 : Int) := ((show F1131 (sc) (7 : Int) = F1088 (sc) (7 : Int) from hM1134 _ _ ho1119.1 (own_z ho1119.1) (by rw [ho1119.2]; rfl)).trans q1127)
        have q1287 := lz_b (F1131 (sc) (14 : Int))
        have q1288 : F1131 (pg) (9 : Int) = F (pg) (9 : Int) := ((show F1131 (pg) (9 : Int) = F1088 (pg) (9 : Int) from hM1134 _ _ ho1120.1 (own_z ho1120.1) (by rw [ho1120.2]; rfl)).trans q1129)
        refine cx_vi (c := 8) (a := me) (st := []) (as := [.int (i32 (19))]) rfl rfl rfl ho1156.1 ho1156.2 (by decide) rfl ⟨rfl, rfl, (Nat.le_of_ble_eq_true rfl)⟩ rfl (k_LParser_expect (dd := d) (R := R) (m := m1130) (tg := tg1130) (ln := ln1130) (F := F1131) (me := me) (tk := 19) (hd := by omega) (hC := hC1133) (o_me := ho1156.1) (t_me := ho1156.2) (h_tk := by omega) (sc := sc) (pg := pg) (o_sc := ho1157.1) (t_sc := ho1157.2) (e_sc := (((show F1131 (me) (1 : Int) = F1088 (me) (1 : Int) from hM1134 _ _ ho1118.1 (own_z ho1118.1) (by rw [ho1118.2]; rfl)).trans ((show F1088 (me) (1 : Int) = F1075 (me) (1 : Int) from hM1092 _ _ o_me (own_z o_me) (by rw [t_me]; rfl)).trans (show F1075 (me) (1 : Int) = F (me) (1 : Int) from hM1077 _ _ o_me (own_z o_me) (by rw [t_me]; rfl)))).trans e_sc)) (o_pg := ho1158.1) (t_pg := ho1158.2) (e_pg := (((show F1131 (me) (0 : Int) = F1088 (me) (0 : Int) from hM1134 _ _ ho1118.1 (own_z ho1118.1) (by rw [ho1118.2]; rfl)).trans ((show F1088 (me) (0 : Int) = F1075 (me) (0 : Int) from hM1092 _ _ o_me (own_z o_me) (by rw [t_me]; rfl)).trans (show F1075 (me) (0 : Int) = F (me) (0 : Int) from hM1077 _ _ o_me (own_z o_me) (by rw [t_me]; rfl)))).trans e_pg)) (p_0 := by omega) (p_1 := by omega) (p_2 := by omega) (p_3 := by omega) (c_NP := c1142)) (fun o V_q hq => ?_)
        obtain ⟨m1289, tg1289, ln1289, F1290, rfl, rfl, hx1291, hC1292, hM1293, p1294, p1295, p1296, p1297, p1298, p1299, p1300, c1301, c1302, -⟩ | ⟨m1303, tg1303, ln1303, F1303, x1303, rfl, rfl, hx1303, hC1303, hM1303, ho1303, ht1303, p1304, p1305, p1306, p1307, c1308, c1309, -⟩ := hq
        rotate_left
        ·
          have c1310 : NM m m1303 tg1303 := NM_t c1160 hx1303 c1309
          have lm1311 := hx1303.1
          refine Or.inr (Or.inr (Or.inr ⟨_, _, rfl, cx_exc (c := 15) ho1303 ht1303 (by decide), rfl, ?_⟩))
          have q1312 : F1131 (sc) (7 : Int) = F (sc) (7 : Int) := q1286
          exact Or.inr ⟨m1303, tg1303, ln1303, F1303, x1303, rfl, rfl, Ex_t hX1159 hx1303, hC1303, Fq_t (ln := ln) (ln1 := ln1130) hM1154 hX1159 hM1303 (by decide) (Or.inl rfl), (And.intro ho1303 ht1303).1, (And.intro ho1303 ht1303).2, by omega, by omega, by omega, by omega, c1308, c1310, trivial⟩
        have hM1313 : Fq 0 [(7, 15), (9, 2), (9, 3), (10, 0), (10, 1), (10, 2), (10, 8), (11, 8), (11, 12), (11, 13), (11, 14), (11, 15), (11, 16), (11, 17), (11, 18)] m tg F F1290 := Fq_t (ln := ln) (ln1 := ln1130) hM1154 hX1159 hM1293 (by decide) (Or.inl rfl)
        have lm1314 := hx1291.1
        have ho1315 : own m1289 (me) ∧ tg1289 (me) = 9 := Ex_o hx1291 ⟨ho1156.1, ho1156.2⟩
        have ho1316 : own m1289 (sc) ∧ tg1289 (sc) = 11 := Ex_o hx1291 ⟨ho1157.1, ho1157.2⟩
        have ho1317 : own m1289 (pg) ∧ tg1289 (pg) = 10 := Ex_o hx1291 ⟨ho1158.1, ho1158.2⟩
        have hX1318 := Ex_t hX1159 hx1291
        have c1319 : NM m m1289 tg1289 := NM_t c1160 hx1291 c1302
        refine Or.inl ⟨rfl, ?_⟩
        refine jx_ld (pc_q := 69) (l_q := L1280) (st_q := [.int (i32 (1))]) rfl (jl_iloadn g1283) ?_
        refine jx_if_eq (pc_q := 72) (tg := 77) rfl rfl rfl (by decide) (by decide) (fun h1320 => ?_) (fun h1320 => ?_)
        · have _q := h1320
          exact absurd h1320 (by omega)
        · have _q := h1320
          refine jx_ar (pc_q := 74) (st_q := [.int (i32 (7))]) rfl rfl rfl rfl ?_
          refine jx_go (tg := 78) rfl rfl ?_
          refine jx_ld (pc_q := 79) (l_q := jSto1 L1280 3 (.int (i32 (7)))) (st_q := []) rfl rfl ?_
          obtain ⟨L1321, eL1321⟩ : ∃ q : jL, q = jSto1 L1280 3 (.int (i32 (7))) := ⟨_, rfl⟩
          rw [← eL1321]
          have g1322 : jGet L1321 0 = some (rv (me)) := eL1321 ▸ jg_nr (by decide) g1281
          have g1323 : jGet L1321 1 = some (.int (i32 (r1089))) := eL1321 ▸ jg_ne (by decide) g1282 rfl
          have g1324 : jGet L1321 2 = some (.int (i32 (1))) := eL1321 ▸ jg_ne (by decide) g1283 rfl
          have g1325 : jGet L1321 3 = some (.int (i32 (7))) := eL1321 ▸ jg_eq
          clear eL1321
          refine jx_ld (pc_q := 80) (l_q := L1321) (st_q := [.int (i32 (r1089))]) rfl (jl_iloadn g1323) ?_
          refine jx_if_ne (pc_q := 83) (tg := 87) rfl rfl rfl (by omega) (by omega) (fun h1326 => ?_) (fun h1326 => ?_)
          · have _q := h1326
            refine jx_ld (pc_q := 88) (l_q := L1321) (st_q := [.int (i32 (1))]) rfl (jl_iloadn g1324) ?_
            refine jx_if_eq (pc_q := 91) (tg := 96) rfl rfl rfl (by decide) (by decide) (fun h1327 => ?_) (fun h1327 => ?_)
            · have _q := h1327
              exact absurd h1327 (by omega)
            · have _q := h1327
              refine jx_ar (pc_q := 93) (st_q := [.int (i32 (9))]) rfl rfl rfl rfl ?_
              refine jx_go (tg := 97) rfl rfl ?_
              refine jx_ld (pc_q := 99) (l_q := jSto1 L1321 4 (.int (i32 (9)))) (st_q := []) rfl rfl ?_
              obtain ⟨L1328, eL1328⟩ : ∃ q : jL, q = jSto1 L1321 4 (.int (i32 (9))) := ⟨_, rfl⟩
              rw [← eL1328]
              have g1329 : jGet L1328 0 = some (rv (me)) := eL1328 ▸ jg_nr (by decide) g1322
              have g1330 : jGet L1328 1 = some (.int (i32 (r1089))) := eL1328 ▸ jg_ne (by decide) g1323 rfl
              have g1331 : jGet L1328 2 = some (.int (i32 (1))) := eL1328 ▸ jg_ne (by decide) g1324 rfl
              have g1332 : jGet L1328 3 = some (.int (i32 (7))) := eL1328 ▸ jg_ne (by decide) g1325 rfl
              have g1333 : jGet L1328 4 = some (.int (i32 (9))) := eL1328 ▸ jg_eq
              clear eL1328
              refine jx_ld (pc_q := 100) (l_q := L1328) (st_q := [rv (me)]) rfl (jl_rvn g1329) ?_
              refine cx_gr (pc_q := 103) (c := 8) (q := 2) (v := F (me) (2 : Int)) rfl rfl (by decide) (by decide) rfl rfl ho1315.1 ho1315.2 ((show F1290 (me) (2 : Int) = F1131 (me) (2 : Int) from hM1293 _ _ ho1156.1 (own_z ho1156.1) (by rw [ho1156.2]; rfl)).trans ((show F1131 (me) (2 : Int) = F1088 (me) (2 : Int) from hM1134 _ _ ho1118.1 (own_z ho1118.1) (by rw [ho1118.2]; rfl)).trans ((show F1088 (me) (2 : Int) = F1075 (me) (2 : Int) from hM1092 _ _ o_me (own_z o_me) (by rw [t_me]; rfl)).trans (show F1075 (me) (2 : Int) = F (me) (2 : Int) from hM1077 _ _ o_me (own_z o_me) (by rw [t_me]; rfl))))) ?_
              have y1334 : F (me) (2 : Int) = 0 ∨ (own m1289 (F (me) (2 : Int)) ∧ tg1289 (F (me) (2 : Int)) = 7) := by have z := HC_r (c := 8) (q := 2) hC1292 ho1315.1 ho1315.2 (by decide) rfl; rw [show F1290 (me) ((2 : Nat) : Int) = F (me) (2 : Int) from ((show F1290 (me) (2 : Int) = F1131 (me) (2 : Int) from hM1293 _ _ ho1156.1 (own_z ho1156.1) (by rw [ho1156.2]; rfl)).trans ((show F1131 (me) (2 : Int) = F1088 (me) (2 : Int) from hM1134 _ _ ho1118.1 (own_z ho1118.1) (by rw [ho1118.2]; rfl)).trans ((show F1088 (me) (2 : Int) = F1075 (me) (2 : Int) from hM1092 _ _ o_me (own_z o_me) (by rw [t_me]; rfl)).trans (show F1075 (me) (2 : Int) = F (me) (2 : Int) from hM1077 _ _ o_me (own_z o_me) (by rw [t_me]; rfl)))))] at z; exact z
              refine jx_ld (pc_q := 105) (l_q := jSto1 L1328 5 (rv (F (me) (2 : Int)))) (st_q := []) rfl (js_rv (by decide)) ?_
              obtain ⟨L1335, eL1335⟩ : ∃ q : jL, q = jSto1 L1328 5 (rv (F (me) (2 : Int))) := ⟨_, rfl⟩
              rw [← eL1335]
              have g1336 : jGet L1335 0 = some (rv (me)) := eL1335 ▸ jg_nr (by decide) g1329
              have g1337 : jGet L1335 1 = some (.int (i32 (r1089))) := eL1335 ▸ jg_ne (by decide) g1330 rfl
              have g1338 : jGet L1335 2 = some (.int (i32 (1))) := eL1335 ▸ jg_ne (by decide) g1331 rfl
              have g1339 : jGet L1335 3 = some (.int (i32 (7))) := eL1335 ▸ jg_ne (by decide) g1332 rfl
              have g1340 : jGet L1335 4 = some (.int (i32 (9))) := eL1335 ▸ jg_ne (by decide) g1333 rfl
              have g1341 : jGet L1335 5 = some (rv (F (me) (2 : Int))) := eL1335 ▸ jg_eq
              clear eL1335
              refine jx_ar (pc_q := 106) (st_q := .null :: []) rfl rfl rfl rfl ?_
              rw [← rv_0]
              refine jx_ld (pc_q := 108) (l_q := jSto1 L1335 6 (rv (0))) (st_q := []) rfl (js_rv (by decide)) ?_
              obtain ⟨L1342, eL1342⟩ : ∃ q : jL, q = jSto1 L1335 6 (rv (0)) := ⟨_, rfl⟩
              rw [← eL1342]
              have g1343 : jGet L1342 0 = some (rv (me)) := eL1342 ▸ jg_nr (by decide) g1336
              have g1344 : jGet L1342 1 = some (.int (i32 (r1089))) := eL1342 ▸ jg_ne (by decide) g1337 rfl
              have g1345 : jGet L1342 2 = some (.int (i32 (1))) := eL1342 ▸ jg_ne (by decide) g1338 rfl
              have g1346 : jGet L1342 3 = some (.int (i32 (7))) := eL1342 ▸ jg_ne (by decide) g1339 rfl
              have g1347 : jGet L1342 4 = some (.int (i32 (9))) := eL1342 ▸ jg_ne (by decide) g1340 rfl
              have g1348 : jGet L1342 5 = some (rv (F (me) (2 : Int))) := eL1342 ▸ jg_nr (by decide) g1341
              have g1349 : jGet L1342 6 = some (rv (0)) := eL1342 ▸ jg_eq
              clear eL1342
              refine jx_ar (pc_q := 109) (st_q := [.int (i32 (0))]) rfl rfl rfl rfl ?_
              refine jx_ld (pc_q := 111) (l_q := jSto1 L1342 7 (.int (i32 (0)))) (st_q := []) rfl rfl ?_
              obtain ⟨L1350, eL1350⟩ : ∃ q : jL, q = jSto1 L1342 7 (.int (i32 (0))) := ⟨_, rfl⟩
              rw [← eL1350]
              have g1351 : jGet L1350 0 = some (rv (me)) := eL1350 ▸ jg_nr (by decide) g1343
              have g1352 : jGet L1350 1 = some (.int (i32 (r1089))) := eL1350 ▸ jg_ne (by decide) g1344 rfl
              have g1353 : jGet L1350 2 = some (.int (i32 (1))) := eL1350 ▸ jg_ne (by decide) g1345 rfl
              have g1354 : jGet L1350 3 = some (.int (i32 (7))) := eL1350 ▸ jg_ne (by decide) g1346 rfl
              have g1355 : jGet L1350 4 = some (.int (i32 (9))) := eL1350 ▸ jg_ne (by decide) g1347 rfl
              have g1356 : jGet L1350 5 = some (rv (F (me) (2 : Int))) := eL1350 ▸ jg_nr (by decide) g1348
              have g1357 : jGet L1350 6 = some (rv (0)) := eL1350 ▸ jg_nr (by decide) g1349
              have g1358 : jGet L1350 7 = some (.int (i32 (0))) := eL1350 ▸ jg_eq
              clear eL1350
              have q1359 := tz_b (F1290 (sc) (15 : Int))
              have q1360 := lz_b (F1290 (sc) (14 : Int))
              have q1361 : F1290 (pg) (9 : Int) = F (pg) (9 : Int) := ((show F1290 (pg) (9 : Int) = F1131 (pg) (9 : Int) from hM1293 _ _ ho1158.1 (own_z ho1158.1) (by rw [ho1158.2]; rfl)).trans q1288)
              exact k_LParser_readDeclaration_at_111 (X := X) (d := d) (R := R) (m := m) (tg := tg) (ln := ln) (F := F) (me := me) (hd := hd) (hC := hC) (sc := sc) (pg := pg) (o_sc := o_sc) (t_sc := t_sc) (e_sc := e_sc) (o_pg := o_pg) (t_pg := t_pg) (e_pg := e_pg) (o_me := o_me) (t_me := t_me) (p_0 := p_0) (p_1 := p_1) (p_2 := p_2) (c_NP := c_NP) _ L1350 m1289 tg1289 ln1289 F1290 (r1089) (9) (0) (F (me) (2 : Int)) (0) (F (me) (2 : Int)) rfl g1351 g1352 g1355 g1358 g1356 g1357 hX1318 hC1292 hM1313 (by omega) (by omega) (by omega) y1334 (Or.inl rfl) (by omega) (by omega) (by omega) (by omega) (by omega) (by omega) (by omega) (by omega) (by omega) (by omega) (by omega) c1301 c1319 ((show F1290 (me) (2 : Int) = F1131 (me) (2 : Int) from hM1293 _ _ ho1156.1 (own_z ho1156.1) (by rw [ho1156.2]; rfl)).trans ((show F1131 (me) (2 : Int) = F1088 (me) (2 : Int) from hM1134 _ _ ho1118.1 (own_z ho1118.1) (by rw [ho1118.2]; rfl)).trans ((show F1088 (me) (2 : Int) = F1075 (me) (2 : Int) from hM1092 _ _ o_me (own_z o_me) (by rw [t_me]; rfl)).trans (show F1075 (me) (2 : Int) = F (me) (2 : Int) from hM1077 _ _ o_me (own_z o_me) (by rw [t_me]; rfl))))) y1334
          · have _q := h1326
            refine jx_ld (pc_q := 84) (l_q := L1321) (st_q := [.int (i32 (7))]) rfl (jl_iloadn g1325) ?_
            refine jx_go (tg := 97) rfl rfl ?_
            refine jx_ld (pc_q := 99) (l_q := jSto1 L1321 4 (.int (i32 (7)))) (st_q := []) rfl rfl ?_
            obtain ⟨L1362, eL1362⟩ : ∃ q : jL, q = jSto1 L1321 4 (.int (i32 (7))) := ⟨_, rfl⟩
            rw [← eL1362]
            have g1363 : jGet L1362 0 = some (rv (me)) := eL1362 ▸ jg_nr (by decide) g1322
            have g1364 : jGet L1362 1 = some (.int (i32 (r1089))) := eL1362 ▸ jg_ne (by decide) g1323 rfl
            have g1365 : jGet L1362 2 = some (.int (i32 (1))) := eL1362 ▸ jg_ne (by decide) g1324 rfl
            have g1366 : jGet L1362 3 = some (.int (i32 (7))) := eL1362 ▸ jg_ne (by decide) g1325 rfl
            have g1367 : jGet L1362 4 = some (.int (i32 (7))) := eL1362 ▸ jg_eq
            clear eL1362
            refine jx_ld (pc_q := 100) (l_q := L1362) (st_q := [rv (me)]) rfl (jl_rvn g1363) ?_
            refine cx_gr (pc_q := 103) (c := 8) (q := 2) (v := F (me) (2 : Int)) rfl rfl (by decide) (by decide) rfl rfl ho1315.1 ho1315.2 ((show F1290 (me) (2 : Int) = F1131 (me) (2 : Int) from hM1293 _ _ ho1156.1 (own_z ho1156.1) (by rw [ho1156.2]; rfl)).trans ((show F1131 (me) (2 : Int) = F1088 (me) (2 : Int) from hM1134 _ _ ho1118.1 (own_z ho1118.1) (by rw [ho1118.2]; rfl)).trans ((show F1088 (me) (2 : Int) = F1075 (me) (2 : Int) from hM1092 _ _ o_me (own_z o_me) (by rw [t_me]; rfl)).trans (show F1075 (me) (2 : Int) = F (me) (2 : Int) from hM1077 _ _ o_me (own_z o_me) (by rw [t_me]; rfl))))) ?_
            have y1368 : F (me) (2 : Int) = 0 ∨ (own m1289 (F (me) (2 : Int)) ∧ tg1289 (F (me) (2 : Int)) = 7) := by have z := HC_r (c := 8) (q := 2) hC1292 ho1315.1 ho1315.2 (by decide) rfl; rw [show F1290 (me) ((2 : Nat) : Int) = F (me) (2 : Int) from ((show F1290 (me) (2 : Int) = F1131 (me) (2 : Int) from hM1293 _ _ ho1156.1 (own_z ho1156.1) (by rw [ho1156.2]; rfl)).trans ((show F1131 (me) (2 : Int) = F1088 (me) (2 : Int) from hM1134 _ _ ho1118.1 (own_z ho1118.1) (by rw [ho1118.2]; rfl)).trans ((show F1088 (me) (2 : Int) = F1075 (me) (2 : Int) from hM1092 _ _ o_me (own_z o_me) (by rw [t_me]; rfl)).trans (show F1075 (me) (2 : Int) = F (me) (2 : Int) from hM1077 _ _ o_me (own_z o_me) (by rw [t_me]; rfl)))))] at z; exact z
            refine jx_ld (pc_q := 105) (l_q := jSto1 L1362 5 (rv (F (me) (2 : Int)))) (st_q := []) rfl (js_rv (by decide)) ?_
            obtain ⟨L1369, eL1369⟩ : ∃ q : jL, q = jSto1 L1362 5 (rv (F (me) (2 : Int))) := ⟨_, rfl⟩
            rw [← eL1369]
            have g1370 : jGet L1369 0 = some (rv (me)) := eL1369 ▸ jg_nr (by decide) g1363
            have g1371 : jGet L1369 1 = some (.int (i32 (r1089))) := eL1369 ▸ jg_ne (by decide) g1364 rfl
            have g1372 : jGet L1369 2 = some (.int (i32 (1))) := eL1369 ▸ jg_ne (by decide) g1365 rfl
            have g1373 : jGet L1369 3 = some (.int (i32 (7))) := eL1369 ▸ jg_ne (by decide) g1366 rfl
            have g1374 : jGet L1369 4 = some (.int (i32 (7))) := eL1369 ▸ jg_ne (by decide) g1367 rfl
            have g1375 : jGet L1369 5 = some (rv (F (me) (2 : Int))) := eL1369 ▸ jg_eq
            clear eL1369
            refine jx_ar (pc_q := 106) (st_q := .null :: []) rfl rfl rfl rfl ?_
            rw [← rv_0]
            refine jx_ld (pc_q := 108) (l_q := jSto1 L1369 6 (rv (0))) (st_q := []) rfl (js_rv (by decide)) ?_
            obtain ⟨L1376, eL1376⟩ : ∃ q : jL, q = jSto1 L1369 6 (rv (0)) := ⟨_, rfl⟩
            rw [← eL1376]
            have g1377 : jGet L1376 0 = some (rv (me)) := eL1376 ▸ jg_nr (by decide) g1370
            have g1378 : jGet L1376 1 = some (.int (i32 (r1089))) := eL1376 ▸ jg_ne (by decide) g1371 rfl
            have g1379 : jGet L1376 2 = some (.int (i32 (1))) := eL1376 ▸ jg_ne (by decide) g1372 rfl
            have g1380 : jGet L1376 3 = some (.int (i32 (7))) := eL1376 ▸ jg_ne (by decide) g1373 rfl
            have g1381 : jGet L1376 4 = some (.int (i32 (7))) := eL1376 ▸ jg_ne (by decide) g1374 rfl
            have g1382 : jGet L1376 5 = some (rv (F (me) (2 : Int))) := eL1376 ▸ jg_nr (by decide) g1375
            have g1383 : jGet L1376 6 = some (rv (0)) := eL1376 ▸ jg_eq
            clear eL1376
            refine jx_ar (pc_q := 109) (st_q := [.int (i32 (0))]) rfl rfl rfl rfl ?_
            refine jx_ld (pc_q := 111) (l_q := jSto1 L1376 7 (.int (i32 (0)))) (st_q := []) rfl rfl ?_
            obtain ⟨L1384, eL1384⟩ : ∃ q : jL, q = jSto1 L1376 7 (.int (i32 (0))) := ⟨_, rfl⟩
            rw [← eL1384]
            have g1385 : jGet L1384 0 = some (rv (me)) := eL1384 ▸ jg_nr (by decide) g1377
            have g1386 : jGet L1384 1 = some (.int (i32 (r1089))) := eL1384 ▸ jg_ne (by decide) g1378 rfl
            have g1387 : jGet L1384 2 = some (.int (i32 (1))) := eL1384 ▸ jg_ne (by decide) g1379 rfl
            have g1388 : jGet L1384 3 = some (.int (i32 (7))) := eL1384 ▸ jg_ne (by decide) g1380 rfl
            have g1389 : jGet L1384 4 = some (.int (i32 (7))) := eL1384 ▸ jg_ne (by decide) g1381 rfl
            have g1390 : jGet L1384 5 = some (rv (F (me) (2 : Int))) := eL1384 ▸ jg_nr (by decide) g1382
            have g1391 : jGet L1384 6 = some (rv (0)) := eL1384 ▸ jg_nr (by decide) g1383
            have g1392 : jGet L1384 7 = some (.int (i32 (0))) := eL1384 ▸ jg_eq
            clear eL1384
            have q1393 := tz_b (F1290 (sc) (15 : Int))
            have q1394 := lz_b (F1290 (sc) (14 : Int))
            have q1395 : F1290 (pg) (9 : Int) = F (pg) (9 : Int) := ((show F1290 (pg) (9 : Int) = F1131 (pg) (9 : Int) from hM1293 _ _ ho1158.1 (own_z ho1158.1) (by rw [ho1158.2]; rfl)).trans q1288)
            exact k_LParser_readDeclaration_at_111 (X := X) (d := d) (R := R) (m := m) (tg := tg) (ln := ln) (F := F) (me := me) (hd := hd) (hC := hC) (sc := sc) (pg := pg) (o_sc := o_sc) (t_sc := t_sc) (e_sc := e_sc) (o_pg := o_pg) (t_pg := t_pg) (e_pg := e_pg) (o_me := o_me) (t_me := t_me) (p_0 := p_0) (p_1 := p_1) (p_2 := p_2) (c_NP := c_NP) _ L1384 m1289 tg1289 ln1289 F1290 (r1089) (7) (0) (F (me) (2 : Int)) (0) (F (me) (2 : Int)) rfl g1385 g1386 g1389 g1392 g1390 g1391 hX1318 hC1292 hM1313 (by omega) (by omega) (by omega) y1368 (Or.inl rfl) (by omega) (by omega) (by omega) (by omega) (by omega) (by omega) (by omega) (by omega) (by omega) (by omega) (by omega) c1301 c1319 ((show F1290 (me) (2 : Int) = F1131 (me) (2 : Int) from hM1293 _ _ ho1156.1 (own_z ho1156.1) (by rw [ho1156.2]; rfl)).trans ((show F1131 (me) (2 : Int) = F1088 (me) (2 : Int) from hM1134 _ _ ho1118.1 (own_z ho1118.1) (by rw [ho1118.2]; rfl)).trans ((show F1088 (me) (2 : Int) = F1075 (me) (2 : Int) from hM1092 _ _ o_me (own_z o_me) (by rw [t_me]; rfl)).trans (show F1075 (me) (2 : Int) = F (me) (2 : Int) from hM1077 _ _ o_me (own_z o_me) (by rw [t_me]; rfl))))) y1368
