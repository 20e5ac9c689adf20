set_option maxRecDepth 20000 in
set_option maxHeartbeats 4000000 in
theorem k_LParser_readAlt_at_29 {X : jX} {kk : Nat} (hE : 1 ≤ kk → PPx X (kk - 1)) {d : Nat} {R : Nat → jC} {m : Nat} {tg ln : Int → Int} {F : Int → Int → Int} {me p lv : Int} (hd : 6 * kk + 84 ≤ d + 1) (hC : HC 0 m tg ln F) {sc pg : Int} (o_sc : own m sc) (t_sc : tg sc = 11) (e_sc : F me (1 : Int) = sc) (o_pg : own m pg) (t_pg : tg pg = 10) (e_pg : F me (0 : Int) = pg) (o_me : own m me) (t_me : tg me = 9) (o_p : own m p) (t_p : tg p = 8) (h_lv : (-2147483648 : Int) ≤ lv ∧ lv ≤ 2147483647) (p_0 : F sc (8 : Int) + 2 * tz (F sc (15 : Int)) ≤ F sc (7 : Int) + 1) (p_1 : F sc (8 : Int) + 2 * lz (F sc (14 : Int)) ≤ F sc (7 : Int) + 1) (p_2 : F sc (8 : Int) ≤ F sc (7 : Int)) (p_3 : tz (F sc (15 : Int)) = 1) (p_4 : 0 ≤ lv) (p_5 : lv ≤ 15) (p_6 : 18 ≤ (kk : Int) + lv) (p_7 : F p (0 : Int) = 0) (p_8 : F p (3 : Int) = 0) (p_9 : F p (4 : Int) = 0) (p_10 : F p (5 : Int) = 0) (p_11 : F p (6 : Int) = 0) (p_12 : F p (7 : Int) = 0) (p_13 : F p (8 : Int) = 0) (p_14 : F p (101 : Int) = 0) (p_15 : F p (103 : Int) = 0) (c_NP : NP m tg F) : ∀ (mm : Nat) (L : jL) (mx : Nat) (tgx lnx : Int → Int) (Fx : Int → Int → Int) (k la : Int), (8 - k).toNat = mm → jGet L 0 = some (rv (me)) → jGet L 1 = some (rv (p)) → jGet L 2 = some (.int (i32 (lv))) → jGet L 4 = some (.int (i32 k)) → jGet L 3 = some (rv la) → Ex m tg ln mx tgx lnx → HC 0 mx tgx lnx Fx → Fq p [(7, 15), (9, 2), (9, 3), (10, 0), (10, 1), (10, 2), (10, 8), (10, 9), (11, 8), (11, 12), (11, 13), (11, 14), (11, 15), (11, 16), (11, 17), (11, 18)] m tg F Fx → ((-2147483648 : Int) ≤ k ∧ k ≤ 2147483647) → (la = 0 ∨ (own mx la ∧ tgx la = 8)) → (Fx sc (8 : Int) + 2 * tz (Fx sc (15 : Int)) ≤ F sc (7 : Int) + 1) → (Fx sc (8 : Int) + 2 * lz (Fx sc (14 : Int)) ≤ F sc (7 : Int) + 1) → (Fx pg (9 : Int) ≤ F pg (9 : Int) + ((mx : Int) - (m : Int))) → (F sc (8 : Int) ≤ Fx sc (8 : Int)) → (szD mx tgx lnx = szD m tg ln + 25 * ((mx : Int) - (m : Int))) → ((mx : Int) ≤ (m : Int) + (Fx sc (8 : Int) - F sc (8 : Int)) + (-2)) → (0 ≤ k) → (Fx p (0 : Int) = 13) → (la = 0 ∨ (64 + (m : Int) ≤ la ∧ Fx la (103 : Int) = 1 ∧ Fx la (100 : Int) = 59 - 2 * lv ∧ Fx la (101 : Int) = 0)) → (NP mx tgx Fx) → (NM m mx tgx) → (WK Fx p (60 - 2 * lv)) → wj X d jm188 (29, L, [], cV R mx tgx lnx Fx) (fun o V_q => (∃ (m_q : Nat) (tg_q ln_q : Int → Int) (F_q : Int → Int → Int), V_q = cV R m_q tg_q ln_q F_q ∧ o = .inl none ∧ Ex m tg ln m_q tg_q ln_q ∧ HC 0 m_q tg_q ln_q F_q ∧ Fq p [(7, 15), (9, 2), (9, 3), (10, 0), (10, 1), (10, 2), (10, 8), (10, 9), (11, 8), (11, 12), (11, 13), (11, 14), (11, 15), (11, 16), (11, 17), (11, 18)] m tg F F_q ∧ (F_q sc (8 : Int) + 2 * tz (F_q sc (15 : Int)) ≤ F sc (7 : Int) + 1) ∧ (F_q sc (8 : Int) + 2 * lz (F_q sc (14 : Int)) ≤ F sc (7 : Int) + 1) ∧ (F sc (8 : Int) ≤ F_q sc (8 : Int)) ∧ (szD m_q tg_q ln_q = szD m tg ln + 25 * ((m_q : Int) - (m : Int))) ∧ ((m_q : Int) ≤ (m : Int) + (F_q sc (8 : Int) - F sc (8 : Int)) + (-1)) ∧ (F_q pg (9 : Int) ≤ F pg (9 : Int) + ((m_q : Int) - (m : Int))) ∧ (WK F_q p (60 - 2 * lv)) ∧ (NP m_q tg_q F_q) ∧ (NM m m_q tg_q) ∧ True) ∨ (∃ (m_q : Nat) (tg_q ln_q : Int → Int) (F_q : Int → Int → Int) (x : Nat), V_q = cV R m_q tg_q ln_q F_q ∧ o = .inr x ∧ Ex m tg ln m_q tg_q ln_q ∧ HC 0 m_q tg_q ln_q F_q ∧ Fq p [(7, 15), (9, 2), (9, 3), (10, 0), (10, 1), (10, 2), (10, 8), (10, 9), (11, 8), (11, 12), (11, 13), (11, 14), (11, 15), (11, 16), (11, 17), (11, 18)] m tg F F_q ∧ (own m_q (x : Int)) ∧ (tg_q (x : Int) = 16) ∧ (F_q pg (0 : Int) ≠ 0) ∧ (szD m_q tg_q ln_q = szD m tg ln + 25 * ((m_q : Int) - (m : Int))) ∧ ((m_q : Int) ≤ (m : Int) + (F_q sc (8 : Int) - F sc (8 : Int)) + (2)) ∧ (F_q sc (8 : Int) ≤ F sc (7 : Int) + 1) ∧ (NP m_q tg_q F_q) ∧ (NM m m_q tg_q) ∧ True)) := by
  intro mm
  induction mm using Nat.strongRecOn with
  | ind mm ih =>
    intro L mx tgx lnx Fx k la hmm gL_0 gL_1 gL_2 gL_4 gL_3 hXx hCx hMx rx_k yx_la iv_0 iv_1 iv_2 iv_3 iv_4 iv_5 iv_6 iv_7 iv_8 cx_NP cx_NM wx_p
    have hX0 : Ex m tg ln m tg ln := Ex_r
    have lm1 := hXx.1
    have lt2 : p < 64 + (m : Int) := o_p.2.1
    have ho3 : own mx (me) ∧ tgx (me) = 9 := Ex_o hXx ⟨o_me, t_me⟩
    have ho4 : own mx (p) ∧ tgx (p) = 8 := Ex_o hXx ⟨o_p, t_p⟩
    have ho5 : own mx (sc) ∧ tgx (sc) = 11 := Ex_o hXx ⟨o_sc, t_sc⟩
    have ho6 : own mx (pg) ∧ tgx (pg) = 10 := Ex_o hXx ⟨o_pg, t_pg⟩
    have hX7 := Ex_t hX0 hXx
    have tb0 := tz_b (F sc (15 : Int))
    have lb0 := lz_b (F sc (14 : Int))
    have tb1 := tz_b (Fx sc (15 : Int))
    have lb1 := lz_b (Fx sc (14 : Int))
    have ob0 : (0 : Int) ≤ F me (3 : Int) ∧ F me (3 : Int) ≤ 8 := HC_i (c := 8) (q := 3) hC o_me t_me (by decide) rfl
    have tp0 : F me (2 : Int) < 64 + (m : Int) := by
      have z : F me (2 : Int) = 0 ∨ (own m (F me (2 : Int)) ∧ tg (F me (2 : Int)) = 7) := HC_r (c := 8) (q := 2) hC o_me t_me (by decide) rfl
      rcases z with w | w
      · omega
      · exact w.1.2.1
    have nz_p := own_z o_p
    have q8 := wx_p.1
    have q9 := wx_p.2.1
    have q10 := wx_p.2.2.1
    by_cases h11 : la = 0
    · have _q := h11
      refine jx_ld (pc_q := 31) (l_q := L) (st_q := [.int (i32 (k))]) rfl (jl_iload gL_4) ?_
      refine jx_ar (pc_q := 33) (st_q := [.int (i32 (8)), .int (i32 (k))]) rfl rfl rfl rfl ?_
      refine jx_icmp_ge (pc_q := 36) (tg := 103) rfl rfl rfl (by omega) (by omega) (by decide) (by decide) (fun h12 => ?_) (fun h12 => ?_)
      · have _q := h12
        refine jx_rt (v := none) rfl rfl rfl rfl rfl rfl ?_
        have q13 : Fx (sc) (7 : Int) = F (sc) (7 : Int) := (show Fx (sc) (7 : Int) = F (sc) (7 : Int) from hMx _ _ o_sc (fun w => by have q1 := ho5.2; rw [w, ho4.2] at q1; exact absurd q1 (by decide)) (by rw [t_sc]; rfl))
        have q14 := tz_b (Fx (sc) (15 : Int))
        have q15 := lz_b (Fx (sc) (14 : Int))
        exact Or.inl ⟨mx, tgx, lnx, Fx, rfl, rfl, hXx, hCx, hMx, by omega, by omega, by omega, by omega, by omega, by omega, (WK_m wx_p (by omega)), cx_NP, cx_NM, trivial⟩
      · have _q := h12
        refine jx_ld (pc_q := 37) (l_q := L) (st_q := [rv (me)]) rfl (jl_rvn gL_0) ?_
        refine cx_gr (pc_q := 40) (c := 8) (q := 1) (v := sc) rfl rfl (by decide) (by decide) rfl rfl ho3.1 ho3.2 ((show Fx (me) (1 : Int) = F (me) (1 : Int) from hMx _ _ o_me (fun w => by have q1 := ho3.2; rw [w, ho4.2] at q1; exact absurd q1 (by decide)) (by rw [t_me]; rfl)).trans e_sc) ?_
        refine cx_gi (pc_q := 43) (c := 10) (q := 14) (v := Fx (sc) (14 : Int)) rfl rfl (by decide) (by decide) (Or.inl rfl) rfl ho5.1 ho5.2 rfl ?_
        have b16 : (-2 : Int) ≤ Fx (sc) (14 : Int) ∧ Fx (sc) (14 : Int) ≤ 15 := by have z := HC_i (c := 10) (q := 14) hCx ho5.1 ho5.2 (by decide) rfl; rw [show Fx (sc) ((14 : Nat) : Int) = Fx (sc) (14 : Int) from rfl] at z; exact z
        refine jx_ld (pc_q := 44) (l_q := L) (st_q := [.int (i32 (lv)), .int (i32 (Fx (sc) (14 : Int)))]) rfl (jl_iloadn gL_2) ?_
        refine jx_ar (pc_q := 45) (st_q := [.int (i32 (1)), .int (i32 (lv)), .int (i32 (Fx (sc) (14 : Int)))]) rfl rfl rfl rfl ?_
        refine jx_add (pc_q := 46) rfl rfl ?_
        refine jx_icmp_ne (pc_q := 49) (tg := 103) rfl rfl rfl (by omega) (by omega) (by omega) (by omega) (fun h17 => ?_) (fun h17 => ?_)
        · have _q := h17
          refine jx_rt (v := none) rfl rfl rfl rfl rfl rfl ?_
          have q18 : Fx (sc) (7 : Int) = F (sc) (7 : Int) := (show Fx (sc) (7 : Int) = F (sc) (7 : Int) from hMx _ _ o_sc (fun w => by have q1 := ho5.2; rw [w, ho4.2] at q1; exact absurd q1 (by decide)) (by rw [t_sc]; rfl))
          have q19 := tz_b (Fx (sc) (15 : Int))
          have q20 := lz_b (Fx (sc) (14 : Int))
          exact Or.inl ⟨mx, tgx, lnx, Fx, rfl, rfl, hXx, hCx, hMx, by omega, by omega, by omega, by omega, by omega, by omega, (WK_m wx_p (by omega)), cx_NP, cx_NM, trivial⟩
        · have _q := h17
          have t21 : lz (Fx (sc) (14 : Int)) = 1 := lz_p (by omega)
          refine cx_newp (pc_q := 52) (c := 7) rfl rfl (by decide) rfl rfl hCx rfl (by decide) (fun n22 m22 tg22 ln22 F22 en22 em22 ho22 hx22 hC22 hf22 h022 hs22 => ?_)
          have ex22 : 64 + (m : Int) ≤ n22 := by have := hXx.1; omega
          have lm23 := hx22.1
          have lt24 : p < 64 + (mx : Int) := ho4.1.2.1
          have lt25 : la < 64 + (mx : Int) := by rcases yx_la with w | w; (· omega); exact w.1.2.1
          have ho26 : own m22 (me) ∧ tg22 (me) = 9 := Ex_o hx22 ⟨ho3.1, ho3.2⟩
          have ho27 : own m22 (p) ∧ tg22 (p) = 8 := Ex_o hx22 ⟨ho4.1, ho4.2⟩
          have y28 : la = 0 ∨ (own m22 (la) ∧ tg22 (la) = 8) := Ex_z hx22 yx_la
          have ho29 : own m22 (sc) ∧ tg22 (sc) = 11 := Ex_o hx22 ⟨ho5.1, ho5.2⟩
          have ho30 : own m22 (pg) ∧ tg22 (pg) = 10 := Ex_o hx22 ⟨ho6.1, ho6.2⟩
          have hX31 := Ex_t hXx hx22
          have hM32 : Fq p [(7, 15), (9, 2), (9, 3), (10, 0), (10, 1), (10, 2), (10, 8), (10, 9), (11, 8), (11, 12), (11, 13), (11, 14), (11, 15), (11, 16), (11, 17), (11, 18)] m tg F F22 := Fq_n hMx hf22 ex22
          have w33 : WK F22 p (60 - 2 * lv) := WK_n wx_p hCx ho4.1 ho4.2 (fun b i ob => hf22 b i (ne_n ob en22))
          have c34 : NM m m22 tg22 := NM_n cx_NM hCx.1 hx22 en22 em22 ho22.2 (by decide)
          refine jx_ar (pc_q := 53) (st_q := [rv (n22), rv (n22)]) rfl rfl ja_dup rfl ?_
          refine jx_ar (pc_q := 55) (st_q := [.int (i32 (15)), rv (n22), rv (n22)]) rfl rfl rfl rfl ?_
          refine jx_ld (pc_q := 56) (l_q := L) (st_q := [rv (me), .int (i32 (15)), rv (n22), rv (n22)]) rfl (jl_rvn gL_0) ?_
          refine cx_gr (pc_q := 59) (c := 8) (q := 1) (v := sc) rfl rfl (by decide) (by decide) rfl rfl ho26.1 ho26.2 (((show F22 (me) (1 : Int) = Fx (me) (1 : Int) from hf22 _ _ (ne_n ho3.1 en22)).trans (show Fx (me) (1 : Int) = F (me) (1 : Int) from hMx _ _ o_me (fun w => by have q1 := ho26.2; rw [w, ho27.2] at q1; exact absurd q1 (by decide)) (by rw [t_me]; rfl))).trans e_sc) ?_
          refine cx_gi (pc_q := 62) (c := 10) (q := 13) (v := Fx (sc) (13 : Int)) rfl rfl (by decide) (by decide) (Or.inl rfl) rfl ho29.1 ho29.2 (show F22 (sc) (13 : Int) = Fx (sc) (13 : Int) from hf22 _ _ (ne_n ho5.1 en22)) ?_
          have b35 : (-2147483648 : Int) ≤ Fx (sc) (13 : Int) ∧ Fx (sc) (13 : Int) ≤ 2147483647 := by have z := HC_i (c := 10) (q := 13) hC22 ho29.1 ho29.2 (by decide) rfl; rw [show F22 (sc) ((13 : Nat) : Int) = Fx (sc) (13 : Int) from (show F22 (sc) (13 : Int) = Fx (sc) (13 : Int) from hf22 _ _ (ne_n ho5.1 en22))] at z; exact z
          refine cx_sp (kd := 2) (a := n22) (st := [rv (n22)]) (as := [.int (i32 (15)), .int (i32 (Fx (sc) (13 : Int)))]) rfl rfl (by decide) rfl ho22.1.1 ⟨rfl, (by rw [jS_r, jS_0]; exact Nat.le_of_ble_eq_true rfl)⟩ rfl (k_LNode_init (dd := d) (R := R) (m := m22) (tg := tg22) (ln := ln22) (F := F22) (me := n22) (kd := 15) (l := Fx (sc) (13 : Int)) (hd := by omega) (hC := hC22) (o_me := ho22.1) (t_me := ho22.2) (h_kd := by omega) (h_l := by omega) (z_me := h022)) (fun o V_q hq => ?_)
          obtain ⟨F36, rfl, rfl, hC37, hM38, p39, zp40, -⟩ := hq
          have hM41 : Fq p [(7, 15), (9, 2), (9, 3), (10, 0), (10, 1), (10, 2), (10, 8), (10, 9), (11, 8), (11, 12), (11, 13), (11, 14), (11, 15), (11, 16), (11, 17), (11, 18)] m tg F F36 := Fq_t (ln := ln) (ln1 := ln22) hM32 hX31 hM38 (by decide) (Or.inr (Or.inr ex22))
          have w42 : WK F36 p (60 - 2 * lv) := WK_qx w33 hC22 ho27.1 ho27.2 (fun b i ob hb => hM38 b i ob hb rfl) ho22.2 (show F22 (n22) (103 : Int) = 0 from h022 _) (by omega)
          have c43 : NP m22 tg22 F36 := NP_nn hCx cx_NP hx22 en22 em22 (fun b i ob => (hM38 b i (own_m ob hx22.1) (ne_n ob en22) rfl).trans (hf22 b i (ne_n ob en22))) (fun _ => (zp40 _ (by decide) (by decide))) (fun w => absurd (ho22.2.symm.trans w) (by decide)) (fun w => absurd (ho22.2.symm.trans w) (by decide))
          refine Or.inl ⟨rfl, ?_⟩
          refine jx_ld (pc_q := 67) (l_q := jSto1 L 5 (rv (n22))) (st_q := []) rfl (js_rv (by decide)) ?_
          obtain ⟨L44, eL44⟩ : ∃ q : jL, q = jSto1 L 5 (rv (n22)) := ⟨_, rfl⟩
          rw [← eL44]
          have g45 : jGet L44 0 = some (rv (me)) := eL44 ▸ jg_nr (by decide) gL_0
          have g46 : jGet L44 1 = some (rv (p)) := eL44 ▸ jg_nr (by decide) gL_1
          have g47 : jGet L44 2 = some (.int (i32 (lv))) := eL44 ▸ jg_ne (by decide) gL_2 rfl
          have g48 : jGet L44 4 = some (.int (i32 (k))) := eL44 ▸ jg_ne (by decide) gL_4 rfl
          have g49 : jGet L44 3 = some (rv (la)) := eL44 ▸ jg_nr (by decide) gL_3
          have g50 : jGet L44 5 = some (rv (n22)) := eL44 ▸ jg_eq
          clear eL44
          refine jx_ld (pc_q := 68) (l_q := L44) (st_q := [rv (me)]) rfl (jl_rvn g45) ?_
          refine jx_ld (pc_q := 70) (l_q := L44) (st_q := [rv (n22), rv (me)]) rfl (jl_rv g50) ?_
          have q51 : F36 (sc) (8 : Int) = Fx (sc) (8 : Int) := ((show F36 (sc) (8 : Int) = F22 (sc) (8 : Int) from hM38 _ _ ho29.1 (fun w => by have q1 := ho29.2; rw [w, ho22.2] at q1; exact absurd q1 (by decide)) (by rw [ho29.2]; rfl)).trans (show F22 (sc) (8 : Int) = Fx (sc) (8 : Int) from hf22 _ _ (ne_n ho5.1 en22)))
          have q52 : F36 (sc) (15 : Int) = Fx (sc) (15 : Int) := ((show F36 (sc) (15 : Int) = F22 (sc) (15 : Int) from hM38 _ _ ho29.1 (fun w => by have q1 := ho29.2; rw [w, ho22.2] at q1; exact absurd q1 (by decide)) (by rw [ho29.2]; rfl)).trans (show F22 (sc) (15 : Int) = Fx (sc) (15 : Int) from hf22 _ _ (ne_n ho5.1 en22)))
          have q53 : tz (F36 (sc) (15 : Int)) = tz (Fx (sc) (15 : Int)) := by rw [q52]
          have q54 := tz_b (Fx (sc) (15 : Int))
          have q55 : F36 (sc) (7 : Int) = F (sc) (7 : Int) := ((show F36 (sc) (7 : Int) = F22 (sc) (7 : Int) from hM38 _ _ ho29.1 (fun w => by have q1 := ho29.2; rw [w, ho22.2] at q1; exact absurd q1 (by decide)) (by rw [ho29.2]; rfl)).trans ((show F22 (sc) (7 : Int) = Fx (sc) (7 : Int) from hf22 _ _ (ne_n ho5.1 en22)).trans (show Fx (sc) (7 : Int) = F (sc) (7 : Int) from hMx _ _ o_sc (fun w => by have q1 := ho29.2; rw [w, ho27.2] at q1; exact absurd q1 (by decide)) (by rw [t_sc]; rfl))))
          have q56 : F36 (sc) (14 : Int) = Fx (sc) (14 : Int) := ((show F36 (sc) (14 : Int) = F22 (sc) (14 : Int) from hM38 _ _ ho29.1 (fun w => by have q1 := ho29.2; rw [w, ho22.2] at q1; exact absurd q1 (by decide)) (by rw [ho29.2]; rfl)).trans (show F22 (sc) (14 : Int) = Fx (sc) (14 : Int) from hf22 _ _ (ne_n ho5.1 en22)))
          have q57 : lz (F36 (sc) (14 : Int)) = lz (Fx (sc) (14 : Int)) := by rw [q56]
          have q58 := lz_b (Fx (sc) (14 : Int))
          have q59 : F36 (n22) (4 : Int) = 0 := (show F36 (n22) (4 : Int) = 0 from zp40 _ (by decide) (by decide))
          have q60 : F36 (n22) (5 : Int) = 0 := (show F36 (n22) (5 : Int) = 0 from zp40 _ (by decide) (by decide))
          have q61 : F36 (n22) (6 : Int) = 0 := (show F36 (n22) (6 : Int) = 0 from zp40 _ (by decide) (by decide))
          have q62 : F36 (n22) (7 : Int) = 0 := (show F36 (n22) (7 : Int) = 0 from zp40 _ (by decide) (by decide))
          have q63 : F36 (n22) (8 : Int) = 0 := (show F36 (n22) (8 : Int) = 0 from zp40 _ (by decide) (by decide))
          have q64 : F36 (n22) (101 : Int) = 0 := (show F36 (n22) (101 : Int) = 0 from zp40 _ (by decide) (by decide))
          have q65 : F36 (n22) (103 : Int) = 0 := (show F36 (n22) (103 : Int) = 0 from zp40 _ (by decide) (by decide))
          have q66 : F36 (pg) (9 : Int) = Fx (pg) (9 : Int) := ((show F36 (pg) (9 : Int) = F22 (pg) (9 : Int) from hM38 _ _ ho30.1 (fun w => by have q1 := ho30.2; rw [w, ho22.2] at q1; exact absurd q1 (by decide)) (by rw [ho30.2]; rfl)).trans (show F22 (pg) (9 : Int) = Fx (pg) (9 : Int) from hf22 _ _ (ne_n ho6.1 en22)))
          refine cx_vi (c := 8) (a := me) (st := []) (as := [rv (n22)]) rfl rfl rfl ho26.1 ho26.2 (by decide) rfl ⟨rfl, rfl, (Nat.le_of_ble_eq_true rfl)⟩ rfl (k_LParser_readGuard (dd := d) (R := R) (m := m22) (tg := tg22) (ln := ln22) (F := F36) (me := me) (gd := n22) (hd := by omega) (hC := hC37) (o_me := ho26.1) (t_me := ho26.2) (o_gd := ho22.1) (t_gd := ho22.2) (sc := sc) (pg := pg) (o_sc := ho29.1) (t_sc := ho29.2) (e_sc := (((show F36 (me) (1 : Int) = F22 (me) (1 : Int) from hM38 _ _ ho26.1 (fun w => by have q1 := ho26.2; rw [w, ho22.2] at q1; exact absurd q1 (by decide)) (by rw [ho26.2]; rfl)).trans ((show F22 (me) (1 : Int) = Fx (me) (1 : Int) from hf22 _ _ (ne_n ho3.1 en22)).trans (show Fx (me) (1 : Int) = F (me) (1 : Int) from hMx _ _ o_me (fun w => by have q1 := ho26.2; rw [w, ho27.2] at q1; exact absurd q1 (by decide)) (by rw [t_me]; rfl)))).trans e_sc)) (o_pg := ho30.1) (t_pg := ho30.2) (e_pg := (((show F36 (me) (0 : Int) = F22 (me) (0 : Int) from hM38 _ _ ho26.1 (fun w => by have q1 := ho26.2; rw [w, ho22.2] at q1; exact absurd q1 (by decide)) (by rw [ho26.2]; rfl)).trans ((show F22 (me) (0 : Int) = Fx (me) (0 : Int) from hf22 _ _ (ne_n ho3.1 en22)).trans (show Fx (me) (0 : Int) = F (me) (0 : Int) from hMx _ _ o_me (fun w => by have q1 := ho26.2; rw [w, ho27.2] at q1; exact absurd q1 (by decide)) (by rw [t_me]; rfl)))).trans e_pg)) (p_0 := by omega) (p_1 := by omega) (p_2 := by omega) (p_3 := by omega) (p_4 := by omega) (p_5 := by omega) (p_6 := by omega) (p_7 := by omega) (p_8 := by omega) (p_9 := by omega) (p_10 := by omega) (c_NP := c43)) (fun o V_q hq => ?_)
          obtain ⟨m67, tg67, ln67, F68, rfl, rfl, hx69, hC70, hM71, p72, p73, p74, p75, p76, p77, p78, p79, p80, c81, c82, -⟩ | ⟨m83, tg83, ln83, F83, x83, rfl, rfl, hx83, hC83, hM83, ho83, ht83, p84, p85, p86, p87, c88, c89, -⟩ := hq
          rotate_left
          ·
            have c90 : NM m m83 tg83 := NM_t c34 hx83 c89
            have lm91 := hx83.1
            refine Or.inr (Or.inr (Or.inr ⟨_, _, rfl, cx_exc (c := 15) ho83 ht83 (by decide), rfl, ?_⟩))
            have q92 : F36 (sc) (8 : Int) = Fx (sc) (8 : Int) := q51
            have q93 : F36 (sc) (7 : Int) = F (sc) (7 : Int) := q55
            exact Or.inr ⟨m83, tg83, ln83, F83, x83, rfl, rfl, Ex_t hX31 hx83, hC83, Fq_t (ln := ln) (ln1 := ln22) hM41 hX31 hM83 (by decide) (Or.inr (Or.inr ex22)), (And.intro ho83 ht83).1, (And.intro ho83 ht83).2, by omega, by omega, by omega, by omega, c88, c90, trivial⟩
          have hM94 : Fq p [(7, 15), (9, 2), (9, 3), (10, 0), (10, 1), (10, 2), (10, 8), (10, 9), (11, 8), (11, 12), (11, 13), (11, 14), (11, 15), (11, 16), (11, 17), (11, 18)] m tg F F68 := Fq_t (ln := ln) (ln1 := ln22) hM41 hX31 hM71 (by decide) (Or.inr (Or.inr ex22))
          have lm95 := hx69.1
          have lt96 : p < 64 + (m22 : Int) := ho27.1.2.1
          have lt97 : la < 64 + (m22 : Int) := by rcases y28 with w | w; (· omega); exact w.1.2.1
          have lt98 : n22 < 64 + (m22 : Int) := ho22.1.2.1
          have ho99 : own m67 (me) ∧ tg67 (me) = 9 := Ex_o hx69 ⟨ho26.1, ho26.2⟩
          have ho100 : own m67 (p) ∧ tg67 (p) = 8 := Ex_o hx69 ⟨ho27.1, ho27.2⟩
          have y101 : la = 0 ∨ (own m67 (la) ∧ tg67 (la) = 8) := Ex_z hx69 y28
          have ho102 : own m67 (n22) ∧ tg67 (n22) = 8 := Ex_o hx69 ⟨ho22.1, ho22.2⟩
          have ho103 : own m67 (sc) ∧ tg67 (sc) = 11 := Ex_o hx69 ⟨ho29.1, ho29.2⟩
          have ho104 : own m67 (pg) ∧ tg67 (pg) = 10 := Ex_o hx69 ⟨ho30.1, ho30.2⟩
          have hX105 := Ex_t hX31 hx69
          have w106 : WK F68 p (60 - 2 * lv) := WK_qy w42 hC37 ho27.1 ho27.2 hM71 rfl ho22.2 q65 (by omega)
          have q107 := p79.1
          have q108 := p79.2.1
          have q109 := p79.2.2.1
          have c110 : NM m m67 tg67 := NM_t c34 hx69 c82
          refine Or.inl ⟨rfl, ?_⟩
          refine jx_ld (pc_q := 74) (l_q := L44) (st_q := [rv (me)]) rfl (jl_rvn g45) ?_
          have q111 := tz_b (F68 (sc) (15 : Int))
          have q112 : F68 (sc) (7 : Int) = F (sc) (7 : Int) := ((show F68 (sc) (7 : Int) = F36 (sc) (7 : Int) from hM71 _ _ ho29.1 (fun w => by have q1 := ho29.2; rw [w, ho22.2] at q1; exact absurd q1 (by decide)) (by rw [ho29.2]; rfl)).trans q55)
          have q113 := lz_b (F68 (sc) (14 : Int))
          refine cx_vi (c := 8) (a := me) (st := []) (as := []) rfl rfl rfl ho99.1 ho99.2 (by decide) rfl ⟨rfl, rfl, (Nat.le_of_ble_eq_true rfl)⟩ rfl (k_LParser_endLine (dd := d) (R := R) (m := m67) (tg := tg67) (ln := ln67) (F := F68) (me := me) (hd := by omega) (hC := hC70) (o_me := ho99.1) (t_me := ho99.2) (sc := sc) (pg := pg) (o_sc := ho103.1) (t_sc := ho103.2) (e_sc := (((show F68 (me) (1 : Int) = F36 (me) (1 : Int) from hM71 _ _ ho26.1 (fun w => by have q1 := ho26.2; rw [w, ho22.2] at q1; exact absurd q1 (by decide)) (by rw [ho26.2]; rfl)).trans ((show F36 (me) (1 : Int) = F22 (me) (1 : Int) from hM38 _ _ ho26.1 (fun w => by have q1 := ho26.2; rw [w, ho22.2] at q1; exact absurd q1 (by decide)) (by rw [ho26.2]; rfl)).trans ((show F22 (me) (1 : Int) = Fx (me) (1 : Int) from hf22 _ _ (ne_n ho3.1 en22)).trans (show Fx (me) (1 : Int) = F (me) (1 : Int) from hMx _ _ o_me (fun w => by have q1 := ho99.2; rw [w, ho100.2] at q1; exact absurd q1 (by decide)) (by rw [t_me]; rfl))))).trans e_sc)) (o_pg := ho104.1) (t_pg := ho104.2) (e_pg := (((show F68 (me) (0 : Int) = F36 (me) (0 : Int) from hM71 _ _ ho26.1 (fun w => by have q1 := ho26.2; rw [w, ho22.2] at q1; exact absurd q1 (by decide)) (by rw [ho26.2]; rfl)).trans ((show F36 (me) (0 : Int) = F22 (me) (0 : Int) from hM38 _ _ ho26.1 (fun w => by have q1 := ho26.2; rw [w, ho22.2] at q1; exact absurd q1 (by decide)) (by rw [ho26.2]; rfl)).trans ((show F22 (me) (0 : Int) = Fx (me) (0 : Int) from hf22 _ _ (ne_n ho3.1 en22)).trans (show Fx (me) (0 : Int) = F (me) (0 : Int) from hMx _ _ o_me (fun w => by have q1 := ho99.2; rw [w, ho100.2] at q1; exact absurd q1 (by decide)) (by rw [t_me]; rfl))))).trans e_pg)) (p_0 := by omega) (p_1 := by omega) (p_2 := by omega) (c_NP := c81)) (fun o V_q hq => ?_)
          obtain ⟨m114, tg114, ln114, F115, rfl, rfl, hx116, hC117, hM118, p119, p120, p121, p122, p123, p124, p125, c126, c127, -⟩ | ⟨m128, tg128, ln128, F128, x128, rfl, rfl, hx128, hC128, hM128, ho128, ht128, p129, p130, p131, p132, c133, c134, -⟩ := hq
          rotate_left
          ·
            have c135 : NM m m128 tg128 := NM_t c110 hx128 c134
            have lm136 := hx128.1
            refine Or.inr (Or.inr (Or.inr ⟨_, _, rfl, cx_exc (c := 15) ho128 ht128 (by decide), rfl, ?_⟩))
            have q137 : F68 (sc) (7 : Int) = F (sc) (7 : Int) := q112
            exact Or.inr ⟨m128, tg128, ln128, F128, x128, rfl, rfl, Ex_t hX105 hx128, hC128, Fq_t (ln := ln) (ln1 := ln67) hM94 hX105 hM128 (by decide) (Or.inr (Or.inl rfl)), (And.intro ho128 ht128).1, (And.intro ho128 ht128).2, by omega, by omega, by omega, by omega, c133, c135, trivial⟩
          have hM138 : Fq p [(7, 15), (9, 2), (9, 3), (10, 0), (10, 1), (10, 2), (10, 8), (10, 9), (11, 8), (11, 12), (11, 13), (11, 14), (11, 15), (11, 16), (11, 17), (11, 18)] m tg F F115 := Fq_t (ln := ln) (ln1 := ln67) hM94 hX105 hM118 (by decide) (Or.inr (Or.inl rfl))
          have lm139 := hx116.1
          have lt140 : p < 64 + (m67 : Int) := ho100.1.2.1
          have lt141 : la < 64 + (m67 : Int) := by rcases y101 with w | w; (· omega); exact w.1.2.1
          have lt142 : n22 < 64 + (m67 : Int) := ho102.1.2.1
          have ho143 : own m114 (me) ∧ tg114 (me) = 9 := Ex_o hx116 ⟨ho99.1, ho99.2⟩
          have ho144 : own m114 (p) ∧ tg114 (p) = 8 := Ex_o hx116 ⟨ho100.1, ho100.2⟩
          have y145 : la = 0 ∨ (own m114 (la) ∧ tg114 (la) = 8) := Ex_z hx116 y101
          have ho146 : own m114 (n22) ∧ tg114 (n22) = 8 := Ex_o hx116 ⟨ho102.1, ho102.2⟩
          have ho147 : own m114 (sc) ∧ tg114 (sc) = 11 := Ex_o hx116 ⟨ho103.1, ho103.2⟩
          have ho148 : own m114 (pg) ∧ tg114 (pg) = 10 := Ex_o hx116 ⟨ho104.1, ho104.2⟩
          have hX149 := Ex_t hX105 hx116
          have w150 : WK F115 p (60 - 2 * lv) := WK_q w106 hC70 ho100.1 ho100.2 hM118 rfl
          have w151 : WK F115 n22 (21) := WK_q p79 hC70 ho102.1 ho102.2 hM118 rfl
          have c152 : NM m m114 tg114 := NM_t c110 hx116 c127
          refine Or.inl ⟨rfl, ?_⟩
          refine jx_ld (pc_q := 79) (l_q := L44) (st_q := [rv (n22)]) rfl (jl_rv g50) ?_
          refine jx_ld (pc_q := 80) (l_q := L44) (st_q := [rv (me), rv (n22)]) rfl (jl_rvn g45) ?_
          refine jx_ld (pc_q := 81) (l_q := L44) (st_q := [.int (i32 (lv)), rv (me), rv (n22)]) rfl (jl_iloadn g47) ?_
          refine jx_ar (pc_q := 82) (st_q := [.int (i32 (2)), .int (i32 (lv)), rv (me), rv (n22)]) rfl rfl rfl rfl ?_
          refine jx_add (pc_q := 83) rfl rfl ?_
          have q153 := tz_b (F115 (sc) (15 : Int))
          have q154 : F115 (sc) (7 : Int) = F (sc) (7 : Int) := ((show F115 (sc) (7 : Int) = F68 (sc) (7 : Int) from hM118 _ _ ho103.1 (own_z ho103.1) (by rw [ho103.2]; rfl)).trans q112)
          have q155 := lz_b (F115 (sc) (14 : Int))
          have q156 : F115 (pg) (9 : Int) = F68 (pg) (9 : Int) := (show F115 (pg) (9 : Int) = F68 (pg) (9 : Int) from hM118 _ _ ho104.1 (own_z ho104.1) (by rw [ho104.2]; rfl))
          have q157 : F115 (me) (2 : Int) = Fx (me) (2 : Int) := ((show F115 (me) (2 : Int) = F68 (me) (2 : Int) from hM118 _ _ ho99.1 (own_z ho99.1) (by rw [ho99.2]; rfl)).trans ((show F68 (me) (2 : Int) = F36 (me) (2 : Int) from hM71 _ _ ho26.1 (fun w => by have q1 := ho26.2; rw [w, ho22.2] at q1; exact absurd q1 (by decide)) (by rw [ho26.2]; rfl)).trans ((show F36 (me) (2 : Int) = F22 (me) (2 : Int) from hM38 _ _ ho26.1 (fun w => by have q1 := ho26.2; rw [w, ho22.2] at q1; exact absurd q1 (by decide)) (by rw [ho26.2]; rfl)).trans (show F22 (me) (2 : Int) = Fx (me) (2 : Int) from hf22 _ _ (ne_n ho3.1 en22)))))
          have hE158 := hE (by omega)
          refine cx_vi (c := 8) (a := me) (st := [rv (n22)]) (as := [.int (i32 ((lv + 2)))]) rfl rfl rfl ho143.1 ho143.2 (by decide) rfl ⟨rfl, rfl, (by rw [jS_r, jS_0]; exact Nat.le_of_ble_eq_true rfl)⟩ rfl (hE158 (dd := d) (R := R) (m := m114) (tg := tg114) (ln := ln114) (F := F115) (me := me) (lv := (lv + 2)) (hd := by omega) (hC := hC117) (o_me := ho143.1) (t_me := ho143.2) (h_lv := by omega) (sc := sc) (pg := pg) (o_sc := ho147.1) (t_sc := ho147.2) (e_sc := (((show F115 (me) (1 : Int) = F68 (me) (1 : Int) from hM118 _ _ ho99.1 (own_z ho99.1) (by rw [ho99.2]; rfl)).trans ((show F68 (me) (1 : Int) = F36 (me) (1 : Int) from hM71 _ _ ho26.1 (fun w => by have q1 := ho26.2; rw [w, ho22.2] at q1; exact absurd q1 (by decide)) (by rw [ho26.2]; rfl)).trans ((show F36 (me) (1 : Int) = F22 (me) (1 : Int) from hM38 _ _ ho26.1 (fun w => by have q1 := ho26.2; rw [w, ho22.2] at q1; exact absurd q1 (by decide)) (by rw [ho26.2]; rfl)).trans ((show F22 (me) (1 : Int) = Fx (me) (1 : Int) from hf22 _ _ (ne_n ho3.1 en22)).trans (show Fx (me) (1 : Int) = F (me) (1 : Int) from hMx _ _ o_me (fun w => by have q1 := ho143.2; rw [w, ho144.2] at q1; exact absurd q1 (by decide)) (by rw [t_me]; rfl)))))).trans e_sc)) (o_pg := ho148.1) (t_pg := ho148.2) (e_pg := (((show F115 (me) (0 : Int) = F68 (me) (0 : Int) from hM118 _ _ ho99.1 (own_z ho99.1) (by rw [ho99.2]; rfl)).trans ((show F68 (me) (0 : Int) = F36 (me) (0 : Int) from hM71 _ _ ho26.1 (fun w => by have q1 := ho26.2; rw [w, ho22.2] at q1; exact absurd q1 (by decide)) (by rw [ho26.2]; rfl)).trans ((show F36 (me) (0 : Int) = F22 (me) (0 : Int) from hM38 _ _ ho26.1 (fun w => by have q1 := ho26.2; rw [w, ho22.2] at q1; exact absurd q1 (by decide)) (by rw [ho26.2]; rfl)).trans ((show F22 (me) (0 : Int) = Fx (me) (0 : Int) from hf22 _ _ (ne_n ho3.1 en22)).trans (show Fx (me) (0 : Int) = F (me) (0 : Int) from hMx _ _ o_me (fun w => by have q1 := ho143.2; rw [w, ho144.2] at q1; exact absurd q1 (by decide)) (by rw [t_me]; rfl)))))).trans e_pg)) (p_0 := by omega) (p_1 := by omega) (p_2 := by omega) (p_3 := by omega) (c_NP := c126)) (fun o V_q hq => ?_)
          obtain ⟨m159, tg159, ln159, F160, r161, rfl, rfl, hx162, hC163, hM164, b165, p166, p167, p168, p169, p170, p171, p172, p173, p174, p175, p176, p177, c178, c179, -⟩ | ⟨m180, tg180, ln180, F180, x180, rfl, rfl, hx180, hC180, hM180, ho180, ht180, p181, p182, p183, p184, c185, c186, -⟩ := hq
          rotate_left
          ·
            have c187 : NM m m180 tg180 := NM_t c152 hx180 c186
            have lm188 := hx180.1
            refine Or.inr (Or.inr (Or.inr ⟨_, _, rfl, cx_exc (c := 15) ho180 ht180 (by decide), rfl, ?_⟩))
            have q189 : F115 (sc) (7 : Int) = F (sc) (7 : Int) := q154
            exact Or.inr ⟨m180, tg180, ln180, F180, x180, rfl, rfl, Ex_t hX149 hx180, hC180, Fq_t (ln := ln) (ln1 := ln114) hM138 hX149 hM180 (by decide) (Or.inr (Or.inl rfl)), (And.intro ho180 ht180).1, (And.intro ho180 ht180).2, by omega, by omega, by omega, by omega, c185, c187, trivial⟩
          have hM190 : Fq p [(7, 15), (9, 2), (9, 3), (10, 0), (10, 1), (10, 2), (10, 8), (10, 9), (11, 8), (11, 12), (11, 13), (11, 14), (11, 15), (11, 16), (11, 17), (11, 18)] m tg F F160 := Fq_t (ln := ln) (ln1 := ln114) hM138 hX149 hM164 (by decide) (Or.inr (Or.inl rfl))
          have lm191 := hx162.1
          have lt192 : p < 64 + (m114 : Int) := ho144.1.2.1
          have lt193 : la < 64 + (m114 : Int) := by rcases y145 with w | w; (· omega); exact w.1.2.1
          have lt194 : n22 < 64 + (m114 : Int) := ho146.1.2.1
          have ho195 : own m159 (me) ∧ tg159 (me) = 9 := Ex_o hx162 ⟨ho143.1, ho143.2⟩
          have ho196 : own m159 (p) ∧ tg159 (p) = 8 := Ex_o hx162 ⟨ho144.1, ho144.2⟩
          have y197 : la = 0 ∨ (own m159 (la) ∧ tg159 (la) = 8) := Ex_z hx162 y145
          have ho198 : own m159 (n22) ∧ tg159 (n22) = 8 := Ex_o hx162 ⟨ho146.1, ho146.2⟩
          have ho199 : own m159 (sc) ∧ tg159 (sc) = 11 := Ex_o hx162 ⟨ho147.1, ho147.2⟩
          have ho200 : own m159 (pg) ∧ tg159 (pg) = 10 := Ex_o hx162 ⟨ho148.1, ho148.2⟩
          have hX201 := Ex_t hX149 hx162
          have w202 : WK F160 p (60 - 2 * lv) := WK_q w150 hC117 ho144.1 ho144.2 hM164 rfl
          have w203 : WK F160 n22 (21) := WK_q w151 hC117 ho146.1 ho146.2 hM164 rfl
          have c204 : NM m m159 tg159 := NM_t c152 hx162 c179
          refine Or.inr (Or.inl ⟨_, rfl, ?_⟩)
          refine cx_po (pc_q := 89) (c := 7) (q := 7) (qi := (7 : Int)) (z := r161) rfl rfl (by decide) (by decide) rfl rfl rfl (by decide) rfl ho198.1 ho198.2 rfl ?_
          obtain ⟨F205, eF205⟩ : ∃ q, q = uF F160 (n22) (7 : Int) (r161) := ⟨_, rfl⟩
          rw [← eF205]
          have hC206 : HC 0 m159 tg159 ln159 F205 := by rw [eF205]; exact HC_fr (c := 7) (q := 7) (by decide) hC163 ho198.2 (by decide) rfl (Or.inr ⟨b165.1, b165.2⟩) ⟨fun w => absurd w (by decide), fun w => absurd w (by decide)⟩
          have hM207 : Fq p [(7, 15), (9, 2), (9, 3), (10, 0), (10, 1), (10, 2), (10, 8), (10, 9), (11, 8), (11, 12), (11, 13), (11, 14), (11, 15), (11, 16), (11, 17), (11, 18)] m tg F F205 := by rw [eF205]; exact Fq_x hM190 (Or.inr ex22)
          have w208 : WK F205 p (60 - 2 * lv) := by rw [eF205]; exact WK_un w202 hC163 ho196.1 ho196.2 ho198.2 (by rw [show F160 (n22) (103 : Int) = F68 (n22) (103 : Int) from ((show F160 (n22) (103 : Int) = F115 (n22) (103 : Int) from hM164 _ _ ho146.1 (own_z ho146.1) (by rw [ho146.2]; rfl)).trans (show F115 (n22) (103 : Int) = F68 (n22) (103 : Int) from hM118 _ _ ho102.1 (own_z ho102.1) (by rw [ho102.2]; rfl)))]; omega) (by omega)
          have w209 : WK F205 n22 (59 - 2 * lv) := by rw [eF205]; exact WK_s (WK_m w203 (by omega)) (by omega) (by omega) (by omega) (by omega) (by rw [show F160 (n22) (0 : Int) = F68 (n22) (0 : Int) from ((show F160 (n22) (0 : Int) = F115 (n22) (0 : Int) from hM164 _ _ ho146.1 (own_z ho146.1) (by rw [ho146.2]; rfl)).trans (show F115 (n22) (0 : Int) = F68 (n22) (0 : Int) from hM118 _ _ ho102.1 (own_z ho102.1) (by rw [ho102.2]; rfl)))]; omega)
          have c210 : NP m159 tg159 F205 := by rw [eF205]; exact NP_un hC163 c178 ho198.1 ho198.2 (by rw [show F160 (n22) (103 : Int) = F68 (n22) (103 : Int) from ((show F160 (n22) (103 : Int) = F115 (n22) (103 : Int) from hM164 _ _ ho146.1 (own_z ho146.1) (by rw [ho146.2]; rfl)).trans (show F115 (n22) (103 : Int) = F68 (n22) (103 : Int) from hM118 _ _ ho102.1 (own_z ho102.1) (by rw [ho102.2]; rfl)))]; omega) (by decide) (Or.inl (by decide))
          refine jx_ld (pc_q := 90) (l_q := L44) (st_q := [rv (p)]) rfl (jl_rvn g46) ?_
          refine jx_ld (pc_q := 91) (l_q := L44) (st_q := [rv (la), rv (p)]) rfl (jl_rvn g49) ?_
          refine jx_ld (pc_q := 93) (l_q := L44) (st_q := [rv (n22), rv (la), rv (p)]) rfl (jl_rv g50) ?_
          have q211 := w209.1
          have q212 := w209.2.1
          have q213 := w209.2.2.1
          rw [← cV_gh (F := F205) (a := n22) (j := 100) (z := 59 - 2 * lv) (Or.inr ⟨by decide, by rw [ho198.2]; decide⟩)]
          obtain ⟨F214, eF214⟩ : ∃ q, q = uF F205 (n22) (100 : Int) (59 - 2 * lv) := ⟨_, rfl⟩
          rw [← eF214]
          have hC215 : HC 0 m159 tg159 ln159 F214 := by rw [eF214]; exact HC_gh hC206 (by rw [ho198.2]; decide) (by decide)
          have hM216 : Fq p [(7, 15), (9, 2), (9, 3), (10, 0), (10, 1), (10, 2), (10, 8), (10, 9), (11, 8), (11, 12), (11, 13), (11, 14), (11, 15), (11, 16), (11, 17), (11, 18)] m tg F F214 := by rw [eF214]; exact Fq_x hM207 (Or.inr ex22)
          have w217 : WK F214 p (60 - 2 * lv) := by rw [eF214]; exact WK_un w208 hC206 ho196.1 ho196.2 ho198.2 (by rw [show F205 (n22) (103 : Int) = F68 (n22) (103 : Int) from ((show F205 (n22) (103 : Int) = F160 (n22) (103 : Int) from by rw [eF205]; exact uF_j (by decide)).trans ((show F160 (n22) (103 : Int) = F115 (n22) (103 : Int) from hM164 _ _ ho146.1 (own_z ho146.1) (by rw [ho146.2]; rfl)).trans (show F115 (n22) (103 : Int) = F68 (n22) (103 : Int) from hM118 _ _ ho102.1 (own_z ho102.1) (by rw [ho102.2]; rfl))))]; omega) (by omega)
          rw [← cV_gh (F := F214) (a := n22) (j := 103) (z := 1) (Or.inr ⟨by decide, by rw [ho198.2]; decide⟩)]
          obtain ⟨F218, eF218⟩ : ∃ q, q = uF F214 (n22) (103 : Int) (1) := ⟨_, rfl⟩
          rw [← eF218]
          have hC219 : HC 0 m159 tg159 ln159 F218 := by rw [eF218]; exact HC_gh hC215 (by rw [ho198.2]; decide) (by decide)
          have hM220 : Fq p [(7, 15), (9, 2), (9, 3), (10, 0), (10, 1), (10, 2), (10, 8), (10, 9), (11, 8), (11, 12), (11, 13), (11, 14), (11, 15), (11, 16), (11, 17), (11, 18)] m tg F F218 := by rw [eF218]; exact Fq_x hM216 (Or.inr ex22)
          have w221 : WK F218 p (60 - 2 * lv) := by rw [eF218]; exact WK_un w217 hC215 ho196.1 ho196.2 ho198.2 (by rw [show F214 (n22) (103 : Int) = F68 (n22) (103 : Int) from ((show F214 (n22) (103 : Int) = F205 (n22) (103 : Int) from by rw [eF214]; exact uF_j (by decide)).trans ((show F205 (n22) (103 : Int) = F160 (n22) (103 : Int) from by rw [eF205]; exact uF_j (by decide)).trans ((show F160 (n22) (103 : Int) = F115 (n22) (103 : Int) from hM164 _ _ ho146.1 (own_z ho146.1) (by rw [ho146.2]; rfl)).trans (show F115 (n22) (103 : Int) = F68 (n22) (103 : Int) from hM118 _ _ ho102.1 (own_z ho102.1) (by rw [ho102.2]; rfl)))))]; omega) (by omega)
          have c222 : NP m159 tg159 F218 := by rw [eF218, eF214]; exact NP_seal hC206 c210 ho198.1 ho198.2 w209 (by omega)
          refine cx_st (st := []) (as := [rv (p), rv (la), rv (n22)]) rfl rfl rfl ⟨rfl, (Nat.le_of_ble_eq_true rfl)⟩ rfl (k_LParser_append (dd := d) (R := R) (m := m159) (tg := tg159) (ln := ln159) (F := F218) (p := p) (la := la) (ch := n22) (hd := by omega) (hC := hC219) (o_p := ho196.1) (t_p := ho196.2) (y_la := y197) (o_ch := ho198.1) (t_ch := ho198.2)) (fun o V_q hq => ?_)
          obtain ⟨z223, hz223, rfl, hq⟩ := hq
          rcases hq with ⟨hlz223, rfl⟩ | ⟨hlz223, rfl⟩
          · have _q := hlz223
            refine Or.inr (Or.inl ⟨_, rfl, ?_⟩)
            obtain ⟨F224, eF224⟩ : ∃ q, q = uF F218 (p) (4 : Int) (n22) := ⟨_, rfl⟩
            rw [← eF224]
            have hC225 : HC 0 m159 tg159 ln159 F224 := by rw [eF224]; exact HC_fr (c := 7) (q := 4) (by decide) hC219 ho196.2 (by decide) rfl (Or.inr ⟨ho198.1, ho198.2⟩) ⟨fun w => absurd w (by decide), fun w => absurd w (by decide)⟩
            have hM226 : Fq p [(7, 15), (9, 2), (9, 3), (10, 0), (10, 1), (10, 2), (10, 8), (10, 9), (11, 8), (11, 12), (11, 13), (11, 14), (11, 15), (11, 16), (11, 17), (11, 18)] m tg F F224 := by rw [eF224]; exact Fq_x hM220 (Or.inl rfl)
            have w227 : WK F224 p (60 - 2 * lv) := by rw [eF224]; exact WK_s (WK_m w221 (by omega)) (by omega) (show F218 (n22) (103 : Int) = 1 from by rw [eF218]; exact uF_e) (by rw [show F218 (n22) (100 : Int) = 59 - 2 * lv from ((show F218 (n22) (100 : Int) = F214 (n22) (100 : Int) from by rw [eF218]; exact uF_j (by decide)).trans (show F214 (n22) (100 : Int) = 59 - 2 * lv from by rw [eF214]; exact uF_e))]; omega) (by rw [show F218 (n22) (100 : Int) = 59 - 2 * lv from ((show F218 (n22) (100 : Int) = F214 (n22) (100 : Int) from by rw [eF218]; exact uF_j (by decide)).trans (show F214 (n22) (100 : Int) = 59 - 2 * lv from by rw [eF214]; exact uF_e))]; omega) (by rw [show F218 (p) (0 : Int) = Fx (p) (0 : Int) from ((show F218 (p) (0 : Int) = F214 (p) (0 : Int) from by rw [eF218]; exact uF_j (by decide)).trans ((show F214 (p) (0 : Int) = F205 (p) (0 : Int) from by rw [eF214]; exact uF_j (by decide)).trans ((show F205 (p) (0 : Int) = F160 (p) (0 : Int) from by rw [eF205]; exact uF_j (by decide)).trans ((show F160 (p) (0 : Int) = F115 (p) (0 : Int) from hM164 _ _ ho144.1 (own_z ho144.1) (by rw [ho144.2]; rfl)).trans ((show F115 (p) (0 : Int) = F68 (p) (0 : Int) from hM118 _ _ ho100.1 (own_z ho100.1) (by rw [ho100.2]; rfl)).trans ((show F68 (p) (0 : Int) = F36 (p) (0 : Int) from hM71 _ _ ho27.1 (by omega) (by rw [ho27.2]; rfl)).trans ((show F36 (p) (0 : Int) = F22 (p) (0 : Int) from hM38 _ _ ho27.1 (by omega) (by rw [ho27.2]; rfl)).trans (show F22 (p) (0 : Int) = Fx (p) (0 : Int) from hf22 _ _ (ne_n ho4.1 en22)))))))))]; omega)
            have c228 : NP m159 tg159 F224 := by rw [eF224]; exact NP_un hC219 c222 ho196.1 ho196.2 (by rw [show F218 (p) (103 : Int) = Fx (p) (103 : Int) from ((show F218 (p) (103 : Int) = F214 (p) (103 : Int) from by rw [eF218]; exact uF_a (by omega)).trans ((show F214 (p) (103 : Int) = F205 (p) (103 : Int) from by rw [eF214]; exact uF_j (by decide)).trans ((show F205 (p) (103 : Int) = F160 (p) (103 : Int) from by rw [eF205]; exact uF_j (by decide)).trans ((show F160 (p) (103 : Int) = F115 (p) (103 : Int) from hM164 _ _ ho144.1 (own_z ho144.1) (by rw [ho144.2]; rfl)).trans ((show F115 (p) (103 : Int) = F68 (p) (103 : Int) from hM118 _ _ ho100.1 (own_z ho100.1) (by rw [ho100.2]; rfl)).trans ((show F68 (p) (103 : Int) = F36 (p) (103 : Int) from hM71 _ _ ho27.1 (by omega) (by rw [ho27.2]; rfl)).trans ((show F36 (p) (103 : Int) = F22 (p) (103 : Int) from hM38 _ _ ho27.1 (by omega) (by rw [ho27.2]; rfl)).trans (show F22 (p) (103 : Int) = Fx (p) (103 : Int) from hf22 _ _ (ne_n ho4.1 en22)))))))))]; omega) (by decide) (Or.inl (by decide))
            obtain ⟨F229, eF229⟩ : ∃ q, q = uF F224 (p) (2 : Int) (z223) := ⟨_, rfl⟩
            rw [← eF229]
            have hC230 : HC 0 m159 tg159 ln159 F229 := by rw [eF229]; exact HC_fi (c := 7) (q := 2) hC225 ho196.2 (by decide) rfl (by omega) (by omega) ⟨fun w => absurd w (by decide), fun w => absurd w (by decide)⟩
            have hM231 : Fq p [(7, 15), (9, 2), (9, 3), (10, 0), (10, 1), (10, 2), (10, 8), (10, 9), (11, 8), (11, 12), (11, 13), (11, 14), (11, 15), (11, 16), (11, 17), (11, 18)] m tg F F229 := by rw [eF229]; exact Fq_x hM226 (Or.inl rfl)
            have w232 : WK F229 p (60 - 2 * lv) := by rw [eF229]; exact WK_o w227 (by decide)
            have c233 : NP m159 tg159 F229 := by rw [eF229]; exact NP_un hC225 c228 ho196.1 ho196.2 (by rw [show F224 (p) (103 : Int) = Fx (p) (103 : Int) from ((show F224 (p) (103 : Int) = F218 (p) (103 : Int) from by rw [eF224]; exact uF_j (by decide)).trans ((show F218 (p) (103 : Int) = F214 (p) (103 : Int) from by rw [eF218]; exact uF_a (by omega)).trans ((show F214 (p) (103 : Int) = F205 (p) (103 : Int) from by rw [eF214]; exact uF_j (by decide)).trans ((show F205 (p) (103 : Int) = F160 (p) (103 : Int) from by rw [eF205]; exact uF_j (by decide)).trans ((show F160 (p) (103 : Int) = F115 (p) (103 : Int) from hM164 _ _ ho144.1 (own_z ho144.1) (by rw [ho144.2]; rfl)).trans ((show F115 (p) (103 : Int) = F68 (p) (103 : Int) from hM118 _ _ ho100.1 (own_z ho100.1) (by rw [ho100.2]; rfl)).trans ((show F68 (p) (103 : Int) = F36 (p) (103 : Int) from hM71 _ _ ho27.1 (by omega) (by rw [ho27.2]; rfl)).trans ((show F36 (p) (103 : Int) = F22 (p) (103 : Int) from hM38 _ _ ho27.1 (by omega) (by rw [ho27.2]; rfl)).trans (show F22 (p) (103 : Int) = Fx (p) (103 : Int) from hf22 _ _ (ne_n ho4.1 en22))))))))))]; omega) (by decide) (Or.inl (by decide))
            refine jx_ld (pc_q := 97) (l_q := jSto1 L44 3 (rv (n22))) (st_q := []) rfl (js_rvn (by decide)) ?_
            obtain ⟨L234, eL234⟩ : ∃ q : jL, q = jSto1 L44 3 (rv (n22)) := ⟨_, rfl⟩
            rw [← eL234]
            have g235 : jGet L234 0 = some (rv (me)) := eL234 ▸ jg_nr (by decide) g45
            have g236 : jGet L234 1 = some (rv (p)) := eL234 ▸ jg_nr (by decide) g46
            have g237 : jGet L234 2 = some (.int (i32 (lv))) := eL234 ▸ jg_ne (by decide) g47 rfl
            have g238 : jGet L234 4 = some (.int (i32 (k))) := eL234 ▸ jg_ne (by decide) g48 rfl
            have g239 : jGet L234 5 = some (rv (n22)) := eL234 ▸ jg_nr (by decide) g50
            have g240 : jGet L234 3 = some (rv (n22)) := eL234 ▸ jg_eq
            clear eL234
            refine jx_inc (pc_q := 100) (l_q := jSto1 L234 4 (.int (i32 (k + (1))))) (x := k) rfl g238 (by decide) rfl rfl ?_
            obtain ⟨L241, eL241⟩ : ∃ q : jL, q = jSto1 L234 4 (.int (i32 ((k + (1))))) := ⟨_, rfl⟩
            rw [← eL241]
            have g242 : jGet L241 0 = some (rv (me)) := eL241 ▸ jg_nr (by decide) g235
            have g243 : jGet L241 1 = some (rv (p)) := eL241 ▸ jg_nr (by decide) g236
            have g244 : jGet L241 2 = some (.int (i32 (lv))) := eL241 ▸ jg_ne (by decide) g237 rfl
            have g245 : jGet L241 5 = some (rv (n22)) := eL241 ▸ jg_nr (by decide) g239
            have g246 : jGet L241 3 = some (rv (n22)) := eL241 ▸ jg_nr (by decide) g240
            have g247 : jGet L241 4 = some (.int (i32 ((k + (1))))) := eL241 ▸ jg_eq
            clear eL241
            refine jx_go (tg := 29) rfl rfl ?_
            have q248 : F229 (sc) (8 : Int) = F160 (sc) (8 : Int) := ((show F229 (sc) (8 : Int) = F224 (sc) (8 : Int) from by rw [eF229]; exact uF_j (by decide)).trans ((show F224 (sc) (8 : Int) = F218 (sc) (8 : Int) from by rw [eF224]; exact uF_j (by decide)).trans ((show F218 (sc) (8 : Int) = F214 (sc) (8 : Int) from by rw [eF218]; exact uF_j (by decide)).trans ((show F214 (sc) (8 : Int) = F205 (sc) (8 : Int) from by rw [eF214]; exact uF_j (by decide)).trans (show F205 (sc) (8 : Int) = F160 (sc) (8 : Int) from by rw [eF205]; exact uF_j (by decide))))))
            have q249 : F229 (sc) (15 : Int) = F160 (sc) (15 : Int) := ((show F229 (sc) (15 : Int) = F224 (sc) (15 : Int) from by rw [eF229]; exact uF_j (by decide)).trans ((show F224 (sc) (15 : Int) = F218 (sc) (15 : Int) from by rw [eF224]; exact uF_j (by decide)).trans ((show F218 (sc) (15 : Int) = F214 (sc) (15 : Int) from by rw [eF218]; exact uF_j (by decide)).trans ((show F214 (sc) (15 : Int) = F205 (sc) (15 : Int) from by rw [eF214]; exact uF_j (by decide)).trans (show F205 (sc) (15 : Int) = F160 (sc) (15 : Int) from by rw [eF205]; exact uF_j (by decide))))))
            have q250 : tz (F229 (sc) (15 : Int)) = tz (F160 (sc) (15 : Int)) := by rw [q249]
            have q251 := tz_b (F160 (sc) (15 : Int))
            have q252 : F229 (sc) (14 : Int) = F160 (sc) (14 : Int) := ((show F229 (sc) (14 : Int) = F224 (sc) (14 : Int) from by rw [eF229]; exact uF_j (by decide)).trans ((show F224 (sc) (14 : Int) = F218 (sc) (14 : Int) from by rw [eF224]; exact uF_j (by decide)).trans ((show F218 (sc) (14 : Int) = F214 (sc) (14 : Int) from by rw [eF218]; exact uF_j (by decide)).trans ((show F214 (sc) (14 : Int) = F205 (sc) (14 : Int) from by rw [eF214]; exact uF_j (by decide)).trans (show F205 (sc) (14 : Int) = F160 (sc) (14 : Int) from by rw [eF205]; exact uF_j (by decide))))))
            have q253 : lz (F229 (sc) (14 : Int)) = lz (F160 (sc) (14 : Int)) := by rw [q252]
            have q254 := lz_b (F160 (sc) (14 : Int))
            have q255 : F229 (pg) (9 : Int) = F160 (pg) (9 : Int) := ((show F229 (pg) (9 : Int) = F224 (pg) (9 : Int) from by rw [eF229]; exact uF_j (by decide)).trans ((show F224 (pg) (9 : Int) = F218 (pg) (9 : Int) from by rw [eF224]; exact uF_j (by decide)).trans ((show F218 (pg) (9 : Int) = F214 (pg) (9 : Int) from by rw [eF218]; exact uF_j (by decide)).trans ((show F214 (pg) (9 : Int) = F205 (pg) (9 : Int) from by rw [eF214]; exact uF_j (by decide)).trans (show F205 (pg) (9 : Int) = F160 (pg) (9 : Int) from by rw [eF205]; exact uF_j (by decide))))))
            have q256 : F229 (p) (0 : Int) = Fx (p) (0 : Int) := ((show F229 (p) (0 : Int) = F224 (p) (0 : Int) from by rw [eF229]; exact uF_j (by decide)).trans ((show F224 (p) (0 : Int) = F218 (p) (0 : Int) from by rw [eF224]; exact uF_j (by decide)).trans ((show F218 (p) (0 : Int) = F214 (p) (0 : Int) from by rw [eF218]; exact uF_j (by decide)).trans ((show F214 (p) (0 : Int) = F205 (p) (0 : Int) from by rw [eF214]; exact uF_j (by decide)).trans ((show F205 (p) (0 : Int) = F160 (p) (0 : Int) from by rw [eF205]; exact uF_j (by decide)).trans ((show F160 (p) (0 : Int) = F115 (p) (0 : Int) from hM164 _ _ ho144.1 (own_z ho144.1) (by rw [ho144.2]; rfl)).trans ((show F115 (p) (0 : Int) = F68 (p) (0 : Int) from hM118 _ _ ho100.1 (own_z ho100.1) (by rw [ho100.2]; rfl)).trans ((show F68 (p) (0 : Int) = F36 (p) (0 : Int) from hM71 _ _ ho27.1 (by omega) (by rw [ho27.2]; rfl)).trans ((show F36 (p) (0 : Int) = F22 (p) (0 : Int) from hM38 _ _ ho27.1 (by omega) (by rw [ho27.2]; rfl)).trans (show F22 (p) (0 : Int) = Fx (p) (0 : Int) from hf22 _ _ (ne_n ho4.1 en22)))))))))))
            have q257 : F229 (n22) (103 : Int) = 1 := ((show F229 (n22) (103 : Int) = F224 (n22) (103 : Int) from by rw [eF229]; exact uF_j (by decide)).trans ((show F224 (n22) (103 : Int) = F218 (n22) (103 : Int) from by rw [eF224]; exact uF_j (by decide)).trans (show F218 (n22) (103 : Int) = 1 from by rw [eF218]; exact uF_e)))
            have q258 : F229 (n22) (100 : Int) = 59 - 2 * lv := ((show F229 (n22) (100 : Int) = F224 (n22) (100 : Int) from by rw [eF229]; exact uF_j (by decide)).trans ((show F224 (n22) (100 : Int) = F218 (n22) (100 : Int) from by rw [eF224]; exact uF_j (by decide)).trans ((show F218 (n22) (100 : Int) = F214 (n22) (100 : Int) from by rw [eF218]; exact uF_j (by decide)).trans (show F214 (n22) (100 : Int) = 59 - 2 * lv from by rw [eF214]; exact uF_e))))
            have q259 : F229 (n22) (101 : Int) = F68 (n22) (101 : Int) := ((show F229 (n22) (101 : Int) = F224 (n22) (101 : Int) from by rw [eF229]; exact uF_j (by decide)).trans ((show F224 (n22) (101 : Int) = F218 (n22) (101 : Int) from by rw [eF224]; exact uF_j (by decide)).trans ((show F218 (n22) (101 : Int) = F214 (n22) (101 : Int) from by rw [eF218]; exact uF_j (by decide)).trans ((show F214 (n22) (101 : Int) = F205 (n22) (101 : Int) from by rw [eF214]; exact uF_j (by decide)).trans ((show F205 (n22) (101 : Int) = F160 (n22) (101 : Int) from by rw [eF205]; exact uF_j (by decide)).trans ((show F160 (n22) (101 : Int) = F115 (n22) (101 : Int) from hM164 _ _ ho146.1 (own_z ho146.1) (by rw [ho146.2]; rfl)).trans (show F115 (n22) (101 : Int) = F68 (n22) (101 : Int) from hM118 _ _ ho102.1 (own_z ho102.1) (by rw [ho102.2]; rfl))))))))
            exact ih _ (by omega) L241 m159 tg159 ln159 F229 ((k + (1))) (n22) rfl g242 g243 g244 g247 g246 hX201 hC230 hM231 (by omega) (Or.inr ⟨ho198.1, ho198.2⟩) (by omega) (by omega) (by omega) (by omega) (by omega) (by omega) (by omega) (by omega) (by omega) c233 c204 (WK_m w232 (by omega))
          · have _q := hlz223
            refine Or.inr (Or.inl ⟨_, rfl, ?_⟩)
            have ho260 : own m159 (la) ∧ tg159 (la) = 8 := y197.resolve_left hlz223
            obtain ⟨F261, eF261⟩ : ∃ q, q = uF F218 (la) (8 : Int) (n22) := ⟨_, rfl⟩
            rw [← eF261]
            have hC262 : HC 0 m159 tg159 ln159 F261 := by rw [eF261]; exact HC_fr (c := 7) (q := 8) (by decide) hC219 ho260.2 (by decide) rfl (Or.inr ⟨ho198.1, ho198.2⟩) ⟨fun w => absurd w (by decide), fun w => absurd w (by decide)⟩
            have hM263 : Fq p [(7, 15), (9, 2), (9, 3), (10, 0), (10, 1), (10, 2), (10, 8), (10, 9), (11, 8), (11, 12), (11, 13), (11, 14), (11, 15), (11, 16), (11, 17), (11, 18)] m tg F F261 := by rw [eF261]; exact Fq_x hM220 (Or.inr (by omega))
            have w264 : WK F261 p (60 - 2 * lv) := by rw [eF261]; exact WK_8 w221 (by omega)
            have c265 : NP m159 tg159 F261 := by rw [eF261]; exact NP_nx hC219 c222 ho260.1 ho260.2 (by rw [show F218 (la) (103 : Int) = F160 (la) (103 : Int) from ((show F218 (la) (103 : Int) = F214 (la) (103 : Int) from by rw [eF218]; exact uF_a (by omega)).trans ((show F214 (la) (103 : Int) = F205 (la) (103 : Int) from by rw [eF214]; exact uF_j (by decide)).trans (show F205 (la) (103 : Int) = F160 (la) (103 : Int) from by rw [eF205]; exact uF_j (by decide))))]; omega) (show F218 (n22) (103 : Int) = 1 from by rw [eF218]; exact uF_e) (by omega) (by rw [show F218 (n22) (100 : Int) = 59 - 2 * lv from ((show F218 (n22) (100 : Int) = F214 (n22) (100 : Int) from by rw [eF218]; exact uF_j (by decide)).trans (show F214 (n22) (100 : Int) = 59 - 2 * lv from by rw [eF214]; exact uF_e))]; rw [show F218 (la) (100 : Int) = F160 (la) (100 : Int) from ((show F218 (la) (100 : Int) = F214 (la) (100 : Int) from by rw [eF218]; exact uF_j (by decide)).trans ((show F214 (la) (100 : Int) = F205 (la) (100 : Int) from by rw [eF214]; exact uF_a (by omega)).trans (show F205 (la) (100 : Int) = F160 (la) (100 : Int) from by rw [eF205]; exact uF_j (by decide))))]; omega) (fun w => absurd (by rw [show F218 (la) (101 : Int) = F160 (la) (101 : Int) from ((show F218 (la) (101 : Int) = F214 (la) (101 : Int) from by rw [eF218]; exact uF_j (by decide)).trans ((show F214 (la) (101 : Int) = F205 (la) (101 : Int) from by rw [eF214]; exact uF_j (by decide)).trans (show F205 (la) (101 : Int) = F160 (la) (101 : Int) from by rw [eF205]; exact uF_j (by decide))))]; omega) w)
            obtain ⟨F266, eF266⟩ : ∃ q, q = uF F261 (p) (2 : Int) (z223) := ⟨_, rfl⟩
            rw [← eF266]
            have hC267 : HC 0 m159 tg159 ln159 F266 := by rw [eF266]; exact HC_fi (c := 7) (q := 2) hC262 ho196.2 (by decide) rfl (by omega) (by omega) ⟨fun w => absurd w (by decide), fun w => absurd w (by decide)⟩
            have hM268 : Fq p [(7, 15), (9, 2), (9, 3), (10, 0), (10, 1), (10, 2), (10, 8), (10, 9), (11, 8), (11, 12), (11, 13), (11, 14), (11, 15), (11, 16), (11, 17), (11, 18)] m tg F F266 := by rw [eF266]; exact Fq_x hM263 (Or.inl rfl)
            have w269 : WK F266 p (60 - 2 * lv) := by rw [eF266]; exact WK_o w264 (by decide)
            have c270 : NP m159 tg159 F266 := by rw [eF266]; exact NP_un hC262 c265 ho196.1 ho196.2 (by rw [show F261 (p) (103 : Int) = Fx (p) (103 : Int) from ((show F261 (p) (103 : Int) = F218 (p) (103 : Int) from by rw [eF261]; exact uF_j (by decide)).trans ((show F218 (p) (103 : Int) = F214 (p) (103 : Int) from by rw [eF218]; exact uF_a (by omega)).trans ((show F214 (p) (103 : Int) = F205 (p) (103 : Int) from by rw [eF214]; exact uF_j (by decide)).trans ((show F205 (p) (103 : Int) = F160 (p) (103 : Int) from by rw [eF205]; exact uF_j (by decide)).trans ((show F160 (p) (103 : Int) = F115 (p) (103 : Int) from hM164 _ _ ho144.1 (own_z ho144.1) (by rw [ho144.2]; rfl)).trans ((show F115 (p) (103 : Int) = F68 (p) (103 : Int) from hM118 _ _ ho100.1 (own_z ho100.1) (by rw [ho100.2]; rfl)).trans ((show F68 (p) (103 : Int) = F36 (p) (103 : Int) from hM71 _ _ ho27.1 (by omega) (by rw [ho27.2]; rfl)).trans ((show F36 (p) (103 : Int) = F22 (p) (103 : Int) from hM38 _ _ ho27.1 (by omega) (by rw [ho27.2]; rfl)).trans (show F22 (p) (103 : Int) = Fx (p) (103 : Int) from hf22 _ _ (ne_n ho4.1 en22))))))))))]; omega) (by decide) (Or.inl (by decide))
            refine jx_ld (pc_q := 97) (l_q := jSto1 L44 3 (rv (n22))) (st_q := []) rfl (js_rvn (by decide)) ?_
            obtain ⟨L271, eL271⟩ : ∃ q : jL, q = jSto1 L44 3 (rv (n22)) := ⟨_, rfl⟩
            rw [← eL271]
            have g272 : jGet L271 0 = some (rv (me)) := eL271 ▸ jg_nr (by decide) g45
            have g273 : jGet L271 1 = some (rv (p)) := eL271 ▸ jg_nr (by decide) g46
            have g274 : jGet L271 2 = some (.int (i32 (lv))) := eL271 ▸ jg_ne (by decide) g47 rfl
            have g275 : jGet L271 4 = some (.int (i32 (k))) := eL271 ▸ jg_ne (by decide) g48 rfl
            have g276 : jGet L271 5 = some (rv (n22)) := eL271 ▸ jg_nr (by decide) g50
            have g277 : jGet L271 3 = some (rv (n22)) := eL271 ▸ jg_eq
            clear eL271
            refine jx_inc (pc_q := 100) (l_q := jSto1 L271 4 (.int (i32 (k + (1))))) (x := k) rfl g275 (by decide) rfl rfl ?_
            obtain ⟨L278, eL278⟩ : ∃ q : jL, q = jSto1 L271 4 (.int (i32 ((k + (1))))) := ⟨_, rfl⟩
            rw [← eL278]
            have g279 : jGet L278 0 = some (rv (me)) := eL278 ▸ jg_nr (by decide) g272
            have g280 : jGet L278 1 = some (rv (p)) := eL278 ▸ jg_nr (by decide) g273
            have g281 : jGet L278 2 = some (.int (i32 (lv))) := eL278 ▸ jg_ne (by decide) g274 rfl
            have g282 : jGet L278 5 = some (rv (n22)) := eL278 ▸ jg_nr (by decide) g276
            have g283 : jGet L278 3 = some (rv (n22)) := eL278 ▸ jg_nr (by decide) g277
            have g284 : jGet L278 4 = some (.int (i32 ((k + (1))))) := eL278 ▸ jg_eq
            clear eL278
            refine jx_go (tg := 29) rfl rfl ?_
            have q285 : F266 (sc) (8 : Int) = F160 (sc) (8 : Int) := ((show F266 (sc) (8 : Int) = F261 (sc) (8 : Int) from by rw [eF266]; exact uF_j (by decide)).trans ((show F261 (sc) (8 : Int) = F218 (sc) (8 : Int) from by rw [eF261]; exact uF_a (fun w => by have q1 := ho199.2; have q2 := ho260.2; rw [w, q2] at q1; exact absurd q1 (by decide))).trans ((show F218 (sc) (8 : Int) = F214 (sc) (8 : Int) from by rw [eF218]; exact uF_j (by decide)).trans ((show F214 (sc) (8 : Int) = F205 (sc) (8 : Int) from by rw [eF214]; exact uF_j (by decide)).trans (show F205 (sc) (8 : Int) = F160 (sc) (8 : Int) from by rw [eF205]; exact uF_j (by decide))))))
            have q286 : F266 (sc) (15 : Int) = F160 (sc) (15 : Int) := ((show F266 (sc) (15 : Int) = F261 (sc) (15 : Int) from by rw [eF266]; exact uF_j (by decide)).trans ((show F261 (sc) (15 : Int) = F218 (sc) (15 : Int) from by rw [eF261]; exact uF_j (by decide)).trans ((show F218 (sc) (15 : Int) = F214 (sc) (15 : Int) from by rw [eF218]; exact uF_j (by decide)).trans ((show F214 (sc) (15 : Int) = F205 (sc) (15 : Int) from by rw [eF214]; exact uF_j (by decide)).trans (show F205 (sc) (15 : Int) = F160 (sc) (15 : Int) from by rw [eF205]; exact uF_j (by decide))))))
            have q287 : tz (F266 (sc) (15 : Int)) = tz (F160 (sc) (15 : Int)) := by rw [q286]
            have q288 := tz_b (F160 (sc) (15 : Int))
            have q289 : F266 (sc) (14 : Int) = F160 (sc) (14 : Int) := ((show F266 (sc) (14 : Int) = F261 (sc) (14 : Int) from by rw [eF266]; exact uF_j (by decide)).trans ((show F261 (sc) (14 : Int) = F218 (sc) (14 : Int) from by rw [eF261]; exact uF_j (by decide)).trans ((show F218 (sc) (14 : Int) = F214 (sc) (14 : Int) from by rw [eF218]; exact uF_j (by decide)).trans ((show F214 (sc) (14 : Int) = F205 (sc) (14 : Int) from by rw [eF214]; exact uF_j (by decide)).trans (show F205 (sc) (14 : Int) = F160 (sc) (14 : Int) from by rw [eF205]; exact uF_j (by decide))))))
            have q290 : lz (F266 (sc) (14 : Int)) = lz (F160 (sc) (14 : Int)) := by rw [q289]
            have q291 := lz_b (F160 (sc) (14 : Int))
            have q292 : F266 (pg) (9 : Int) = F160 (pg) (9 : Int) := ((show F266 (pg) (9 : Int) = F261 (pg) (9 : Int) from by rw [eF266]; exact uF_j (by decide)).trans ((show F261 (pg) (9 : Int) = F218 (pg) (9 : Int) from by rw [eF261]; exact uF_j (by decide)).trans ((show F218 (pg) (9 : Int) = F214 (pg) (9 : Int) from by rw [eF218]; exact uF_j (by decide)).trans ((show F214 (pg) (9 : Int) = F205 (pg) (9 : Int) from by rw [eF214]; exact uF_j (by decide)).trans (show F205 (pg) (9 : Int) = F160 (pg) (9 : Int) from by rw [eF205]; exact uF_j (by decide))))))
            have q293 : F266 (p) (0 : Int) = Fx (p) (0 : Int) := ((show F266 (p) (0 : Int) = F261 (p) (0 : Int) from by rw [eF266]; exact uF_j (by decide)).trans ((show F261 (p) (0 : Int) = F218 (p) (0 : Int) from by rw [eF261]; exact uF_j (by decide)).trans ((show F218 (p) (0 : Int) = F214 (p) (0 : Int) from by rw [eF218]; exact uF_j (by decide)).trans ((show F214 (p) (0 : Int) = F205 (p) (0 : Int) from by rw [eF214]; exact uF_j (by decide)).trans ((show F205 (p) (0 : Int) = F160 (p) (0 : Int) from by rw [eF205]; exact uF_j (by decide)).trans ((show F160 (p) (0 : Int) = F115 (p) (0 : Int) from hM164 _ _ ho144.1 (own_z ho144.1) (by rw [ho144.2]; rfl)).trans ((show F115 (p) (0 : Int) = F68 (p) (0 : Int) from hM118 _ _ ho100.1 (own_z ho100.1) (by rw [ho100.2]; rfl)).trans ((show F68 (p) (0 : Int) = F36 (p) (0 : Int) from hM71 _ _ ho27.1 (by omega) (by rw [ho27.2]; rfl)).trans ((show F36 (p) (0 : Int) = F22 (p) (0 : Int) from hM38 _ _ ho27.1 (by omega) (by rw [ho27.2]; rfl)).trans (show F22 (p) (0 : Int) = Fx (p) (0 : Int) from hf22 _ _ (ne_n ho4.1 en22)))))))))))
            have q294 : F266 (n22) (103 : Int) = 1 := ((show F266 (n22) (103 : Int) = F261 (n22) (103 : Int) from by rw [eF266]; exact uF_j (by decide)).trans ((show F261 (n22) (103 : Int) = F218 (n22) (103 : Int) from by rw [eF261]; exact uF_j (by decide)).trans (show F218 (n22) (103 : Int) = 1 from by rw [eF218]; exact uF_e)))
            have q295 : F266 (n22) (100 : Int) = 59 - 2 * lv := ((show F266 (n22) (100 : Int) = F261 (n22) (100 : Int) from by rw [eF266]; exact uF_j (by decide)).trans ((show F261 (n22) (100 : Int) = F218 (n22) (100 : Int) from by rw [eF261]; exact uF_j (by decide)).trans ((show F218 (n22) (100 : Int) = F214 (n22) (100 : Int) from by rw [eF218]; exact uF_j (by decide)).trans (show F214 (n22) (100 : Int) = 59 - 2 * lv from by rw [eF214]; exact uF_e))))
            have q296 : F266 (n22) (101 : Int) = F68 (n22) (101 : Int) := ((show F266 (n22) (101 : Int) = F261 (n22) (101 : Int) from by rw [eF266]; exact uF_j (by decide)).trans ((show F261 (n22) (101 : Int) = F218 (n22) (101 : Int) from by rw [eF261]; exact uF_j (by decide)).trans ((show F218 (n22) (101 : Int) = F214 (n22) (101 : Int) from by rw [eF218]; exact uF_j (by decide)).trans ((show F214 (n22) (101 : Int) = F205 (n22) (101 : Int) from by rw [eF214]; exact uF_j (by decide)).trans ((show F205 (n22) (101 : Int) = F160 (n22) (101 : Int) from by rw [eF205]; exact uF_j (by decide)).trans ((show F160 (n22) (101 : Int) = F115 (n22) (101 : Int) from hM164 _ _ ho146.1 (own_z ho146.1) (by rw [ho146.2]; rfl)).trans (show F115 (n22) (101 : Int) = F68 (n22) (101 : Int) from hM118 _ _ ho102.1 (own_z ho102.1) (by rw [ho102.2]; rfl))))))))
            exact ih _ (by omega) L278 m159 tg159 ln159 F266 ((k + (1))) (n22) rfl g279 g280 g281 g284 g283 hX201 hC267 hM268 (by omega) (Or.inr ⟨ho198.1, ho198.2⟩) (by omega) (by omega) (by omega) (by omega) (by omega) (by omega) (by omega) (by omega) (by omega) c270 c204 (WK_m w269 (by omega))
    · have _q := h11
      have ho297 : own mx (la) ∧ tgx (la) = 8 := yx_la.resolve_left h11
      refine jx_ld (pc_q := 31) (l_q := L) (st_q := [.int (i32 (k))]) rfl (jl_iload gL_4) ?_
      refine jx_ar (pc_q := 33) (st_q := [.int (i32 (8)), .int (i32 (k))]) rfl rfl rfl rfl ?_
      refine jx_icmp_ge (pc_q := 36) (tg := 103) rfl rfl rfl (by omega) (by omega) (by decide) (by decide) (fun h298 => ?_) (fun h298 => ?_)
      · have _q := h298
        refine jx_rt (v := none) rfl rfl rfl rfl rfl rfl ?_
        have q299 : Fx (sc) (7 : Int) = F (sc) (7 : Int) := (show Fx (sc) (7 : Int) = F (sc) (7 : Int) from hMx _ _ o_sc (fun w => by have q1 := ho5.2; rw [w, ho4.2] at q1; exact absurd q1 (by decide)) (by rw [t_sc]; rfl))
        have q300 := tz_b (Fx (sc) (15 : Int))
        have q301 := lz_b (Fx (sc) (14 : Int))
        exact Or.inl ⟨mx, tgx, lnx, Fx, rfl, rfl, hXx, hCx, hMx, by omega, by omega, by omega, by omega, by omega, by omega, (WK_m wx_p (by omega)), cx_NP, cx_NM, trivial⟩
      · have _q := h298
        refine jx_ld (pc_q := 37) (l_q := L) (st_q := [rv (me)]) rfl (jl_rvn gL_0) ?_
        refine cx_gr (pc_q := 40) (c := 8) (q := 1) (v := sc) rfl rfl (by decide) (by decide) rfl rfl ho3.1 ho3.2 ((show Fx (me) (1 : Int) = F (me) (1 : Int) from hMx _ _ o_me (fun w => by have q1 := ho3.2; rw [w, ho4.2] at q1; exact absurd q1 (by decide)) (by rw [t_me]; rfl)).trans e_sc) ?_
        refine cx_gi (pc_q := 43) (c := 10) (q := 14) (v := Fx (sc) (14 : Int)) rfl rfl (by decide) (by decide) (Or.inl rfl) rfl ho5.1 ho5.2 rfl ?_
        have b302 : (-2 : Int) ≤ Fx (sc) (14 : Int) ∧ Fx (sc) (14 : Int) ≤ 15 := by have z := HC_i (c := 10) (q := 14) hCx ho5.1 ho5.2 (by decide) rfl; rw [show Fx (sc) ((14 : Nat) : Int) = Fx (sc) (14 : Int) from rfl] at z; exact z
        refine jx_ld (pc_q := 44) (l_q := L) (st_q := [.int (i32 (lv)), .int (i32 (Fx (sc) (14 : Int)))]) rfl (jl_iloadn gL_2) ?_
        refine jx_ar (pc_q := 45) (st_q := [.int (i32 (1)), .int (i32 (lv)), .int (i32 (Fx (sc) (14 : Int)))]) rfl rfl rfl rfl ?_
        refine jx_add (pc_q := 46) rfl rfl ?_
        refine jx_icmp_ne (pc_q := 49) (tg := 103) rfl rfl rfl (by omega) (by omega) (by omega) (by omega) (fun h303 => ?_) (fun h303 => ?_)
        · have _q := h303
          refine jx_rt (v := none) rfl rfl rfl rfl rfl rfl ?_
          have q304 : Fx (sc) (7 : Int) = F (sc) (7 : Int) := (show Fx (sc) (7 : Int) = F (sc) (7 : Int) from hMx _ _ o_sc (fun w => by have q1 := ho5.2; rw [w, ho4.2] at q1; exact absurd q1 (by decide)) (by rw [t_sc]; rfl))
          have q305 := tz_b (Fx (sc) (15 : Int))
          have q306 := lz_b (Fx (sc) (14 : Int))
          exact Or.inl ⟨mx, tgx, lnx, Fx, rfl, rfl, hXx, hCx, hMx, by omega, by omega, by omega, by omega, by omega, by omega, (WK_m wx_p (by omega)), cx_NP, cx_NM, trivial⟩
        · have _q := h303
          have t307 : lz (Fx (sc) (14 : Int)) = 1 := lz_p (by omega)
          refine cx_newp (pc_q := 52) (c := 7) rfl rfl (by decide) rfl rfl hCx rfl (by decide) (fun n308 m308 tg308 ln308 F308 en308 em308 ho308 hx308 hC308 hf308 h0308 hs308 => ?_)
          have ex308 : 64 + (m : Int) ≤ n308 := by have := hXx.1; omega
          have lm309 := hx308.1
          have lt310 : p < 64 + (mx : Int) := ho4.1.2.1
          have lt311 : la < 64 + (mx : Int) := ho297.1.2.1
          have ho312 : own m308 (me) ∧ tg308 (me) = 9 := Ex_o hx308 ⟨ho3.1, ho3.2⟩
          have ho313 : own m308 (p) ∧ tg308 (p) = 8 := Ex_o hx308 ⟨ho4.1, ho4.2⟩
          have ho314 : own m308 (la) ∧ tg308 (la) = 8 := Ex_o hx308 ⟨ho297.1, ho297.2⟩
          have ho315 : own m308 (sc) ∧ tg308 (sc) = 11 := Ex_o hx308 ⟨ho5.1, ho5.2⟩
          have ho316 : own m308 (pg) ∧ tg308 (pg) = 10 := Ex_o hx308 ⟨ho6.1, ho6.2⟩
          have hX317 := Ex_t hXx hx308
          have hM318 : Fq p [(7, 15), (9, 2), (9, 3), (10, 0), (10, 1), (10, 2), (10, 8), (10, 9), (11, 8), (11, 12), (11, 13), (11, 14), (11, 15), (11, 16), (11, 17), (11, 18)] m tg F F308 := Fq_n hMx hf308 ex308
          have w319 : WK F308 p (60 - 2 * lv) := WK_n wx_p hCx ho4.1 ho4.2 (fun b i ob => hf308 b i (ne_n ob en308))
          have c320 : NM m m308 tg308 := NM_n cx_NM hCx.1 hx308 en308 em308 ho308.2 (by decide)
          refine jx_ar (pc_q := 53) (st_q := [rv (n308), rv (n308)]) rfl rfl ja_dup rfl ?_
          refine jx_ar (pc_q := 55) (st_q := [.int (i32 (15)), rv (n308), rv (n308)]) rfl rfl rfl rfl ?_
          refine jx_ld (pc_q := 56) (l_q := L) (st_q := [rv (me), .int (i32 (15)), rv (n308), rv (n308)]) rfl (jl_rvn gL_0) ?_
          refine cx_gr (pc_q := 59) (c := 8) (q := 1) (v := sc) rfl rfl (by decide) (by decide) rfl rfl ho312.1 ho312.2 (((show F308 (me) (1 : Int) = Fx (me) (1 : Int) from hf308 _ _ (ne_n ho3.1 en308)).trans (show Fx (me) (1 : Int) = F (me) (1 : Int) from hMx _ _ o_me (fun w => by have q1 := ho312.2; rw [w, ho313.2] at q1; exact absurd q1 (by decide)) (by rw [t_me]; rfl))).trans e_sc) ?_
          refine cx_gi (pc_q := 62) (c := 10) (q := 13) (v := Fx (sc) (13 : Int)) rfl rfl (by decide) (by decide) (Or.inl rfl) rfl ho315.1 ho315.2 (show F308 (sc) (13 : Int) = Fx (sc) (13 : Int) from hf308 _ _ (ne_n ho5.1 en308)) ?_
          have b321 : (-2147483648 : Int) ≤ Fx (sc) (13 : Int) ∧ Fx (sc) (13 : Int) ≤ 2147483647 := by have z := HC_i (c := 10) (q := 13) hC308 ho315.1 ho315.2 (by decide) rfl; rw [show F308 (sc) ((13 : Nat) : Int) = Fx (sc) (13 : Int) from (show F308 (sc) (13 : Int) = Fx (sc) (13 : Int) from hf308 _ _ (ne_n ho5.1 en308))] at z; exact z
          refine cx_sp (kd := 2) (a := n308) (st := [rv (n308)]) (as := [.int (i32 (15)), .int (i32 (Fx (sc) (13 : Int)))]) rfl rfl (by decide) rfl ho308.1.1 ⟨rfl, (by rw [jS_r, jS_0]; exact Nat.le_of_ble_eq_true rfl)⟩ rfl (k_LNode_init (dd := d) (R := R) (m := m308) (tg := tg308) (ln := ln308) (F := F308) (me := n308) (kd := 15) (l := Fx (sc) (13 : Int)) (hd := by omega) (hC := hC308) (o_me := ho308.1) (t_me := ho308.2) (h_kd := by omega) (h_l := by omega) (z_me := h0308)) (fun o V_q hq => ?_)
          obtain ⟨F322, rfl, rfl, hC323, hM324, p325, zp326, -⟩ := hq
          have hM327 : Fq p [(7, 15), (9, 2), (9, 3), (10, 0), (10, 1), (10, 2), (10, 8), (10, 9), (11, 8), (11, 12), (11, 13), (11, 14), (11, 15), (11, 16), (11, 17), (11, 18)] m tg F F322 := Fq_t (ln := ln) (ln1 := ln308) hM318 hX317 hM324 (by decide) (Or.inr (Or.inr ex308))
          have w328 : WK F322 p (60 - 2 * lv) := WK_qx w319 hC308 ho313.1 ho313.2 (fun b i ob hb => hM324 b i ob hb rfl) ho308.2 (show F308 (n308) (103 : Int) = 0 from h0308 _) (by omega)
          have c329 : NP m308 tg308 F322 := NP_nn hCx cx_NP hx308 en308 em308 (fun b i ob => (hM324 b i (own_m ob hx308.1) (ne_n ob en308) rfl).trans (hf308 b i (ne_n ob en308))) (fun _ => (zp326 _ (by decide) (by decide))) (fun w => absurd (ho308.2.symm.trans w) (by decide)) (fun w => absurd (ho308.2.symm.trans w) (by decide))
          refine Or.inl ⟨rfl, ?_⟩
          refine jx_ld (pc_q := 67) (l_q := jSto1 L 5 (rv (n308))) (st_q := []) rfl (js_rv (by decide)) ?_
          obtain ⟨L330, eL330⟩ : ∃ q : jL, q = jSto1 L 5 (rv (n308)) := ⟨_, rfl⟩
          rw [← eL330]
          have g331 : jGet L330 0 = some (rv (me)) := eL330 ▸ jg_nr (by decide) gL_0
          have g332 : jGet L330 1 = some (rv (p)) := eL330 ▸ jg_nr (by decide) gL_1
          have g333 : jGet L330 2 = some (.int (i32 (lv))) := eL330 ▸ jg_ne (by decide) gL_2 rfl
          have g334 : jGet L330 4 = some (.int (i32 (k))) := eL330 ▸ jg_ne (by decide) gL_4 rfl
          have g335 : jGet L330 3 = some (rv (la)) := eL330 ▸ jg_nr (by decide) gL_3
          have g336 : jGet L330 5 = some (rv (n308)) := eL330 ▸ jg_eq
          clear eL330
          refine jx_ld (pc_q := 68) (l_q := L330) (st_q := [rv (me)]) rfl (jl_rvn g331) ?_
          refine jx_ld (pc_q := 70) (l_q := L330) (st_q := [rv (n308), rv (me)]) rfl (jl_rv g336) ?_
          have q337 : F322 (sc) (8 : Int) = Fx (sc) (8 : Int) := ((show F322 (sc) (8 : Int) = F308 (sc) (8 : Int) from hM324 _ _ ho315.1 (fun w => by have q1 := ho315.2; rw [w, ho308.2] at q1; exact absurd q1 (by decide)) (by rw [ho315.2]; rfl)).trans (show F308 (sc) (8 : Int) = Fx (sc) (8 : Int) from hf308 _ _ (ne_n ho5.1 en308)))
          have q338 : F322 (sc) (15 : Int) = Fx (sc) (15 : Int) := ((show F322 (sc) (15 : Int) = F308 (sc) (15 : Int) from hM324 _ _ ho315.1 (fun w => by have q1 := ho315.2; rw [w, ho308.2] at q1; exact absurd q1 (by decide)) (by rw [ho315.2]; rfl)).trans (show F308 (sc) (15 : Int) = Fx (sc) (15 : Int) from hf308 _ _ (ne_n ho5.1 en308)))
          have q339 : tz (F322 (sc) (15 : Int)) = tz (Fx (sc) (15 : Int)) := by rw [q338]
          have q340 := tz_b (Fx (sc) (15 : Int))
          have q341 : F322 (sc) (7 : Int) = F (sc) (7 : Int) := ((show F322 (sc) (7 : Int) = F308 (sc) (7 : Int) from hM324 _ _ ho315.1 (fun w => by have q1 := ho315.2; rw [w, ho308.2] at q1; exact absurd q1 (by decide)) (by rw [ho315.2]; rfl)).trans ((show F308 (sc) (7 : Int) = Fx (sc) (7 : Int) from hf308 _ _ (ne_n ho5.1 en308)).trans (show Fx (sc) (7 : Int) = F (sc) (7 : Int) from hMx _ _ o_sc (fun w => by have q1 := ho315.2; rw [w, ho313.2] at q1; exact absurd q1 (by decide)) (by rw [t_sc]; rfl))))
          have q342 : F322 (sc) (14 : Int) = Fx (sc) (14 : Int) := ((show F322 (sc) (14 : Int) = F308 (sc) (14 : Int) from hM324 _ _ ho315.1 (fun w => by have q1 := ho315.2; rw [w, ho308.2] at q1; exact absurd q1 (by decide)) (by rw [ho315.2]; rfl)).trans (show F308 (sc) (14 : Int) = Fx (sc) (14 : Int) from hf308 _ _ (ne_n ho5.1 en308)))
          have q343 : lz (F322 (sc) (14 : Int)) = lz (Fx (sc) (14 : Int)) := by rw [q342]
          have q344 := lz_b (Fx (sc) (14 : Int))
          have q345 : F322 (n308) (4 : Int) = 0 := (show F322 (n308) (4 : Int) = 0 from zp326 _ (by decide) (by decide))
          have q346 : F322 (n308) (5 : Int) = 0 := (show F322 (n308) (5 : Int) = 0 from zp326 _ (by decide) (by decide))
          have q347 : F322 (n308) (6 : Int) = 0 := (show F322 (n308) (6 : Int) = 0 from zp326 _ (by decide) (by decide))
          have q348 : F322 (n308) (7 : Int) = 0 := (show F322 (n308) (7 : Int) = 0 from zp326 _ (by decide) (by decide))
          have q349 : F322 (n308) (8 : Int) = 0 := (show F322 (n308) (8 : Int) = 0 from zp326 _ (by decide) (by decide))
          have q350 : F322 (n308) (101 : Int) = 0 := (show F322 (n308) (101 : Int) = 0 from zp326 _ (by decide) (by decide))
          have q351 : F322 (n308) (103 : Int) = 0 := (show F322 (n308) (103 : Int) = 0 from zp326 _ (by decide) (by decide))
          have q352 : F322 (pg) (9 : Int) = Fx (pg) (9 : Int) := ((show F322 (pg) (9 : Int) = F308 (pg) (9 : Int) from hM324 _ _ ho316.1 (fun w => by have q1 := ho316.2; rw [w, ho308.2] at q1; exact absurd q1 (by decide)) (by rw [ho316.2]; rfl)).trans (show F308 (pg) (9 : Int) = Fx (pg) (9 : Int) from hf308 _ _ (ne_n ho6.1 en308)))
          refine cx_vi (c := 8) (a := me) (st := []) (as := [rv (n308)]) rfl rfl rfl ho312.1 ho312.2 (by decide) rfl ⟨rfl, rfl, (Nat.le_of_ble_eq_true rfl)⟩ rfl (k_LParser_readGuard (dd := d) (R := R) (m := m308) (tg := tg308) (ln := ln308) (F := F322) (me := me) (gd := n308) (hd := by omega) (hC := hC323) (o_me := ho312.1) (t_me := ho312.2) (o_gd := ho308.1) (t_gd := ho308.2) (sc := sc) (pg := pg) (o_sc := ho315.1) (t_sc := ho315.2) (e_sc := (((show F322 (me) (1 : Int) = F308 (me) (1 : Int) from hM324 _ _ ho312.1 (fun w => by have q1 := ho312.2; rw [w, ho308.2] at q1; exact absurd q1 (by decide)) (by rw [ho312.2]; rfl)).trans ((show F308 (me) (1 : Int) = Fx (me) (1 : Int) from hf308 _ _ (ne_n ho3.1 en308)).trans (show Fx (me) (1 : Int) = F (me) (1 : Int) from hMx _ _ o_me (fun w => by have q1 := ho312.2; rw [w, ho313.2] at q1; exact absurd q1 (by decide)) (by rw [t_me]; rfl)))).trans e_sc)) (o_pg := ho316.1) (t_pg := ho316.2) (e_pg := (((show F322 (me) (0 : Int) = F308 (me) (0 : Int) from hM324 _ _ ho312.1 (fun w => by have q1 := ho312.2; rw [w, ho308.2] at q1; exact absurd q1 (by decide)) (by rw [ho312.2]; rfl)).trans ((show F308 (me) (0 : Int) = Fx (me) (0 : Int) from hf308 _ _ (ne_n ho3.1 en308)).trans (show Fx (me) (0 : Int) = F (me) (0 : Int) from hMx _ _ o_me (fun w => by have q1 := ho312.2; rw [w, ho313.2] at q1; exact absurd q1 (by decide)) (by rw [t_me]; rfl)))).trans e_pg)) (p_0 := by omega) (p_1 := by omega) (p_2 := by omega) (p_3 := by omega) (p_4 := by omega) (p_5 := by omega) (p_6 := by omega) (p_7 := by omega) (p_8 := by omega) (p_9 := by omega) (p_10 := by omega) (c_NP := c329)) (fun o V_q hq => ?_)
          obtain ⟨m353, tg353, ln353, F354, rfl, rfl, hx355, hC356, hM357, p358, p359, p360, p361, p362, p363, p364, p365, p366, c367, c368, -⟩ | ⟨m369, tg369, ln369, F369, x369, rfl, rfl, hx369, hC369, hM369, ho369, ht369, p370, p371, p372, p373, c374, c375, -⟩ := hq
          rotate_left
          ·
            have c376 : NM m m369 tg369 := NM_t c320 hx369 c375
            have lm377 := hx369.1
            refine Or.inr (Or.inr (Or.inr ⟨_, _, rfl, cx_exc (c := 15) ho369 ht369 (by decide), rfl, ?_⟩))
            have q378 : F322 (sc) (8 : Int) = Fx (sc) (8 : Int) := q337
            have q379 : F322 (sc) (7 : Int) = F (sc) (7 : Int) := q341
            exact Or.inr ⟨m369, tg369, ln369, F369, x369, rfl, rfl, Ex_t hX317 hx369, hC369, Fq_t (ln := ln) (ln1 := ln308) hM327 hX317 hM369 (by decide) (Or.inr (Or.inr ex308)), (And.intro ho369 ht369).1, (And.intro ho369 ht369).2, by omega, by omega, by omega, by omega, c374, c376, trivial⟩
          have hM380 : Fq p [(7, 15), (9, 2), (9, 3), (10, 0), (10, 1), (10, 2), (10, 8), (10, 9), (11, 8), (11, 12), (11, 13), (11, 14), (11, 15), (11, 16), (11, 17), (11, 18)] m tg F F354 := Fq_t (ln := ln) (ln1 := ln308) hM327 hX317 hM357 (by decide) (Or.inr (Or.inr ex308))
          have lm381 := hx355.1
          have lt382 : p < 64 + (m308 : Int) := ho313.1.2.1
          have lt383 : la < 64 + (m308 : Int) := ho314.1.2.1
          have lt384 : n308 < 64 + (m308 : Int) := ho308.1.2.1
          have ho385 : own m353 (me) ∧ tg353 (me) = 9 := Ex_o hx355 ⟨ho312.1, ho312.2⟩
          have ho386 : own m353 (p) ∧ tg353 (p) = 8 := Ex_o hx355 ⟨ho313.1, ho313.2⟩
          have ho387 : own m353 (la) ∧ tg353 (la) = 8 := Ex_o hx355 ⟨ho314.1, ho314.2⟩
          have ho388 : own m353 (n308) ∧ tg353 (n308) = 8 := Ex_o hx355 ⟨ho308.1, ho308.2⟩
          have ho389 : own m353 (sc) ∧ tg353 (sc) = 11 := Ex_o hx355 ⟨ho315.1, ho315.2⟩
          have ho390 : own m353 (pg) ∧ tg353 (pg) = 10 := Ex_o hx355 ⟨ho316.1, ho316.2⟩
          have hX391 := Ex_t hX317 hx355
          have w392 : WK F354 p (60 - 2 * lv) := WK_qy w328 hC323 ho313.1 ho313.2 hM357 rfl ho308.2 q351 (by omega)
          have q393 := p365.1
          have q394 := p365.2.1
          have q395 := p365.2.2.1
          have c396 : NM m m353 tg353 := NM_t c320 hx355 c368
          refine Or.inl ⟨rfl, ?_⟩
          refine jx_ld (pc_q := 74) (l_q := L330) (st_q := [rv (me)]) rfl (jl_rvn g331) ?_
          have q397 := tz_b (F354 (sc) (15 : Int))
          have q398 : F354 (sc) (7 : Int) = F (sc) (7 : Int) := ((show F354 (sc) (7 : Int) = F322 (sc) (7 : Int) from hM357 _ _ ho315.1 (fun w => by have q1 := ho315.2; rw [w, ho308.2] at q1; exact absurd q1 (by decide)) (by rw [ho315.2]; rfl)).trans q341)
          have q399 := lz_b (F354 (sc) (14 : Int))
          refine cx_vi (c := 8) (a := me) (st := []) (as := []) rfl rfl rfl ho385.1 ho385.2 (by decide) rfl ⟨rfl, rfl, (Nat.le_of_ble_eq_true rfl)⟩ rfl (k_LParser_endLine (dd := d) (R := R) (m := m353) (tg := tg353) (ln := ln353) (F := F354) (me := me) (hd := by omega) (hC := hC356) (o_me := ho385.1) (t_me := ho385.2) (sc := sc) (pg := pg) (o_sc := ho389.1) (t_sc := ho389.2) (e_sc := (((show F354 (me) (1 : Int) = F322 (me) (1 : Int) from hM357 _ _ ho312.1 (fun w => by have q1 := ho312.2; rw [w, ho308.2] at q1; exact absurd q1 (by decide)) (by rw [ho312.2]; rfl)).trans ((show F322 (me) (1 : Int) = F308 (me) (1 : Int) from hM324 _ _ ho312.1 (fun w => by have q1 := ho312.2; rw [w, ho308.2] at q1; exact absurd q1 (by decide)) (by rw [ho312.2]; rfl)).trans ((show F308 (me) (1 : Int) = Fx (me) (1 : Int) from hf308 _ _ (ne_n ho3.1 en308)).trans (show Fx (me) (1 : Int) = F (me) (1 : Int) from hMx _ _ o_me (fun w => by have q1 := ho385.2; rw [w, ho386.2] at q1; exact absurd q1 (by decide)) (by rw [t_me]; rfl))))).trans e_sc)) (o_pg := ho390.1) (t_pg := ho390.2) (e_pg := (((show F354 (me) (0 : Int) = F322 (me) (0 : Int) from hM357 _ _ ho312.1 (fun w => by have q1 := ho312.2; rw [w, ho308.2] at q1; exact absurd q1 (by decide)) (by rw [ho312.2]; rfl)).trans ((show F322 (me) (0 : Int) = F308 (me) (0 : Int) from hM324 _ _ ho312.1 (fun w => by have q1 := ho312.2; rw [w, ho308.2] at q1; exact absurd q1 (by decide)) (by rw [ho312.2]; rfl)).trans ((show F308 (me) (0 : Int) = Fx (me) (0 : Int) from hf308 _ _ (ne_n ho3.1 en308)).trans (show Fx (me) (0 : Int) = F (me) (0 : Int) from hMx _ _ o_me (fun w => by have q1 := ho385.2; rw [w, ho386.2] at q1; exact absurd q1 (by decide)) (by rw [t_me]; rfl))))).trans e_pg)) (p_0 := by omega) (p_1 := by omega) (p_2 := by omega) (c_NP := c367)) (fun o V_q hq => ?_)
          obtain ⟨m400, tg400, ln400, F401, rfl, rfl, hx402, hC403, hM404, p405, p406, p407, p408, p409, p410, p411, c412, c413, -⟩ | ⟨m414, tg414, ln414, F414, x414, rfl, rfl, hx414, hC414, hM414, ho414, ht414, p415, p416, p417, p418, c419, c420, -⟩ := hq
          rotate_left
          ·
            have c421 : NM m m414 tg414 := NM_t c396 hx414 c420
            have lm422 := hx414.1
            refine Or.inr (Or.inr (Or.inr ⟨_, _, rfl, cx_exc (c := 15) ho414 ht414 (by decide), rfl, ?_⟩))
            have q423 : F354 (sc) (7 : Int) = F (sc) (7 : Int) := q398
            exact Or.inr ⟨m414, tg414, ln414, F414, x414, rfl, rfl, Ex_t hX391 hx414, hC414, Fq_t (ln := ln) (ln1 := ln353) hM380 hX391 hM414 (by decide) (Or.inr (Or.inl rfl)), (And.intro ho414 ht414).1, (And.intro ho414 ht414).2, by omega, by omega, by omega, by omega, c419, c421, trivial⟩
          have hM424 : Fq p [(7, 15), (9, 2), (9, 3), (10, 0), (10, 1), (10, 2), (10, 8), (10, 9), (11, 8), (11, 12), (11, 13), (11, 14), (11, 15), (11, 16), (11, 17), (11, 18)] m tg F F401 := Fq_t (ln := ln) (ln1 := ln353) hM380 hX391 hM404 (by decide) (Or.inr (Or.inl rfl))
          have lm425 := hx402.1
          have lt426 : p < 64 + (m353 : Int) := ho386.1.2.1
          have lt427 : la < 64 + (m353 : Int) := ho387.1.2.1
          have lt428 : n308 < 64 + (m353 : Int) := ho388.1.2.1
          have ho429 : own m400 (me) ∧ tg400 (me) = 9 := Ex_o hx402 ⟨ho385.1, ho385.2⟩
          have ho430 : own m400 (p) ∧ tg400 (p) = 8 := Ex_o hx402 ⟨ho386.1, ho386.2⟩
          have ho431 : own m400 (la) ∧ tg400 (la) = 8 := Ex_o hx402 ⟨ho387.1, ho387.2⟩
          have ho432 : own m400 (n308) ∧ tg400 (n308) = 8 := Ex_o hx402 ⟨ho388.1, ho388.2⟩
          have ho433 : own m400 (sc) ∧ tg400 (sc) = 11 := Ex_o hx402 ⟨ho389.1, ho389.2⟩
          have ho434 : own m400 (pg) ∧ tg400 (pg) = 10 := Ex_o hx402 ⟨ho390.1, ho390.2⟩
          have hX435 := Ex_t hX391 hx402
          have w436 : WK F401 p (60 - 2 * lv) := WK_q w392 hC356 ho386.1 ho386.2 hM404 rfl
          have w437 : WK F401 n308 (21) := WK_q p365 hC356 ho388.1 ho388.2 hM404 rfl
          have c438 : NM m m400 tg400 := NM_t c396 hx402 c413
          refine Or.inl ⟨rfl, ?_⟩
          refine jx_ld (pc_q := 79) (l_q := L330) (st_q := [rv (n308)]) rfl (jl_rv g336) ?_
          refine jx_ld (pc_q := 80) (l_q := L330) (st_q := [rv (me), rv (n308)]) rfl (jl_rvn g331) ?_
          refine jx_ld (pc_q := 81) (l_q := L330) (st_q := [.int (i32 (lv)), rv (me), rv (n308)]) rfl (jl_iloadn g333) ?_
          refine jx_ar (pc_q := 82) (st_q := [.int (i32 (2)), .int (i32 (lv)), rv (me), rv (n308)]) rfl rfl rfl rfl ?_
          refine jx_add (pc_q := 83) rfl rfl ?_
          have q439 := tz_b (F401 (sc) (15 : Int))
          have q440 : F401 (sc) (7 : Int) = F (sc) (7 : Int) := ((show F401 (sc) (7 : Int) = F354 (sc) (7 : Int) from hM404 _ _ ho389.1 (own_z ho389.1) (by rw [ho389.2]; rfl)).trans q398)
          have q441 := lz_b (F401 (sc) (14 : Int))
          have q442 : F401 (pg) (9 : Int) = F354 (pg) (9 : Int) := (show F401 (pg) (9 : Int) = F354 (pg) (9 : Int) from hM404 _ _ ho390.1 (own_z ho390.1) (by rw [ho390.2]; rfl))
          have q443 : F401 (me) (2 : Int) = Fx (me) (2 : Int) := ((show F401 (me) (2 : Int) = F354 (me) (2 : Int) from hM404 _ _ ho385.1 (own_z ho385.1) (by rw [ho385.2]; rfl)).trans ((show F354 (me) (2 : Int) = F322 (me) (2 : Int) from hM357 _ _ ho312.1 (fun w => by have q1 := ho312.2; rw [w, ho308.2] at q1; exact absurd q1 (by decide)) (by rw [ho312.2]; rfl)).trans ((show F322 (me) (2 : Int) = F308 (me) (2 : Int) from hM324 _ _ ho312.1 (fun w => by have q1 := ho312.2; rw [w, ho308.2] at q1; exact absurd q1 (by decide)) (by rw [ho312.2]; rfl)).trans (show F308 (me) (2 : Int) = Fx (me) (2 : Int) from hf308 _ _ (ne_n ho3.1 en308)))))
          have hE444 := hE (by omega)
          refine cx_vi (c := 8) (a := me) (st := [rv (n308)]) (as := [.int (i32 ((lv + 2)))]) rfl rfl rfl ho429.1 ho429.2 (by decide) rfl ⟨rfl, rfl, (by rw [jS_r, jS_0]; exact Nat.le_of_ble_eq_true rfl)⟩ rfl (hE444 (dd := d) (R := R) (m := m400) (tg := tg400) (ln := ln400) (F := F401) (me := me) (lv := (lv + 2)) (hd := by omega) (hC := hC403) (o_me := ho429.1) (t_me := ho429.2) (h_lv := by omega) (sc := sc) (pg := pg) (o_sc := ho433.1) (t_sc := ho433.2) (e_sc := (((show F401 (me) (1 : Int) = F354 (me) (1 : Int) from hM404 _ _ ho385.1 (own_z ho385.1) (by rw [ho385.2]; rfl)).trans ((show F354 (me) (1 : Int) = F322 (me) (1 : Int) from hM357 _ _ ho312.1 (fun w => by have q1 := ho312.2; rw [w, ho308.2] at q1; exact absurd q1 (by decide)) (by rw [ho312.2]; rfl)).trans ((show F322 (me) (1 : Int) = F308 (me) (1 : Int) from hM324 _ _ ho312.1 (fun w => by have q1 := ho312.2; rw [w, ho308.2] at q1; exact absurd q1 (by decide)) (by rw [ho312.2]; rfl)).trans ((show F308 (me) (1 : Int) = Fx (me) (1 : Int) from hf308 _ _ (ne_n ho3.1 en308)).trans (show Fx (me) (1 : Int) = F (me) (1 : Int) from hMx _ _ o_me (fun w => by have q1 := ho429.2; rw [w, ho430.2] at q1; exact absurd q1 (by decide)) (by rw [t_me]; rfl)))))).trans e_sc)) (o_pg := ho434.1) (t_pg := ho434.2) (e_pg := (((show F401 (me) (0 : Int) = F354 (me) (0 : Int) from hM404 _ _ ho385.1 (own_z ho385.1) (by rw [ho385.2]; rfl)).trans ((show F354 (me) (0 : Int) = F322 (me) (0 : Int) from hM357 _ _ ho312.1 (fun w => by have q1 := ho312.2; rw [w, ho308.2] at q1; exact absurd q1 (by decide)) (by rw [ho312.2]; rfl)).trans ((show F322 (me) (0 : Int) = F308 (me) (0 : Int) from hM324 _ _ ho312.1 (fun w => by have q1 := ho312.2; rw [w, ho308.2] at q1; exact absurd q1 (by decide)) (by rw [ho312.2]; rfl)).trans ((show F308 (me) (0 : Int) = Fx (me) (0 : Int) from hf308 _ _ (ne_n ho3.1 en308)).trans (show Fx (me) (0 : Int) = F (me) (0 : Int) from hMx _ _ o_me (fun w => by have q1 := ho429.2; rw [w, ho430.2] at q1; exact absurd q1 (by decide)) (by rw [t_me]; rfl)))))).trans e_pg)) (p_0 := by omega) (p_1 := by omega) (p_2 := by omega) (p_3 := by omega) (c_NP := c412)) (fun o V_q hq => ?_)
          obtain ⟨m445, tg445, ln445, F446, r447, rfl, rfl, hx448, hC449, hM450, b451, p452, p453, p454, p455, p456, p457, p458, p459, p460, p461, p462, p463, c464, c465, -⟩ | ⟨m466, tg466, ln466, F466, x466, rfl, rfl, hx466, hC466, hM466, ho466, ht466, p467, p468, p469, p470, c471, c472, -⟩ := hq
          rotate_left
          ·
            have c473 : NM m m466 tg466 := NM_t c438 hx466 c472
            have lm474 := hx466.1
            refine Or.inr (Or.inr (Or.inr ⟨_, _, rfl, cx_exc (c := 15) ho466 ht466 (by decide), rfl, ?_⟩))
            have q475 : F401 (sc) (7 : Int) = F (sc) (7 : Int) := q440
            exact Or.inr ⟨m466, tg466, ln466, F466, x466, rfl, rfl, Ex_t hX435 hx466, hC466, Fq_t (ln := ln) (ln1 := ln400) hM424 hX435 hM466 (by decide) (Or.inr (Or.inl rfl)), (And.intro ho466 ht466).1, (And.intro ho466 ht466).2, by omega, by omega, by omega, by omega, c471, c473, trivial⟩
          have hM476 : Fq p [(7, 15), (9, 2), (9, 3), (10, 0), (10, 1), (10, 2), (10, 8), (10, 9), (11, 8), (11, 12), (11, 13), (11, 14), (11, 15), (11, 16), (11, 17), (11, 18)] m tg F F446 := Fq_t (ln := ln) (ln1 := ln400) hM424 hX435 hM450 (by decide) (Or.inr (Or.inl rfl))
          have lm477 := hx448.1
          have lt478 : p < 64 + (m400 : Int) := ho430.1.2.1
          have lt479 : la < 64 + (m400 : Int) := ho431.1.2.1
          have lt480 : n308 < 64 + (m400 : Int) := ho432.1.2.1
          have ho481 : own m445 (me) ∧ tg445 (me) = 9 := Ex_o hx448 ⟨ho429.1, ho429.2⟩
          have ho482 : own m445 (p) ∧ tg445 (p) = 8 := Ex_o hx448 ⟨ho430.1, ho430.2⟩
          have ho483 : own m445 (la) ∧ tg445 (la) = 8 := Ex_o hx448 ⟨ho431.1, ho431.2⟩
          have ho484 : own m445 (n308) ∧ tg445 (n308) = 8 := Ex_o hx448 ⟨ho432.1, ho432.2⟩
          have ho485 : own m445 (sc) ∧ tg445 (sc) = 11 := Ex_o hx448 ⟨ho433.1, ho433.2⟩
          have ho486 : own m445 (pg) ∧ tg445 (pg) = 10 := Ex_o hx448 ⟨ho434.1, ho434.2⟩
          have hX487 := Ex_t hX435 hx448
          have w488 : WK F446 p (60 - 2 * lv) := WK_q w436 hC403 ho430.1 ho430.2 hM450 rfl
          have w489 : WK F446 n308 (21) := WK_q w437 hC403 ho432.1 ho432.2 hM450 rfl
          have c490 : NM m m445 tg445 := NM_t c438 hx448 c465
          refine Or.inr (Or.inl ⟨_, rfl, ?_⟩)
          refine cx_po (pc_q := 89) (c := 7) (q := 7) (qi := (7 : Int)) (z := r447) rfl rfl (by decide) (by decide) rfl rfl rfl (by decide) rfl ho484.1 ho484.2 rfl ?_
          obtain ⟨F491, eF491⟩ : ∃ q, q = uF F446 (n308) (7 : Int) (r447) := ⟨_, rfl⟩
          rw [← eF491]
          have hC492 : HC 0 m445 tg445 ln445 F491 := by rw [eF491]; exact HC_fr (c := 7) (q := 7) (by decide) hC449 ho484.2 (by decide) rfl (Or.inr ⟨b451.1, b451.2⟩) ⟨fun w => absurd w (by decide), fun w => absurd w (by decide)⟩
          have hM493 : Fq p [(7, 15), (9, 2), (9, 3), (10, 0), (10, 1), (10, 2), (10, 8), (10, 9), (11, 8), (11, 12), (11, 13), (11, 14), (11, 15), (11, 16), (11, 17), (11, 18)] m tg F F491 := by rw [eF491]; exact Fq_x hM476 (Or.inr ex308)
          have w494 : WK F491 p (60 - 2 * lv) := by rw [eF491]; exact WK_un w488 hC449 ho482.1 ho482.2 ho484.2 (by rw [show F446 (n308) (103 : Int) = F354 (n308) (103 : Int) from ((show F446 (n308) (103 : Int) = F401 (n308) (103 : Int) from hM450 _ _ ho432.1 (own_z ho432.1) (by rw [ho432.2]; rfl)).trans (show F401 (n308) (103 : Int) = F354 (n308) (103 : Int) from hM404 _ _ ho388.1 (own_z ho388.1) (by rw [ho388.2]; rfl)))]; omega) (by omega)
          have w495 : WK F491 n308 (59 - 2 * lv) := by rw [eF491]; exact WK_s (WK_m w489 (by omega)) (by omega) (by omega) (by omega) (by omega) (by rw [show F446 (n308) (0 : Int) = F354 (n308) (0 : Int) from ((show F446 (n308) (0 : Int) = F401 (n308) (0 : Int) from hM450 _ _ ho432.1 (own_z ho432.1) (by rw [ho432.2]; rfl)).trans (show F401 (n308) (0 : Int) = F354 (n308) (0 : Int) from hM404 _ _ ho388.1 (own_z ho388.1) (by rw [ho388.2]; rfl)))]; omega)
          have c496 : NP m445 tg445 F491 := by rw [eF491]; exact NP_un hC449 c464 ho484.1 ho484.2 (by rw [show F446 (n308) (103 : Int) = F354 (n308) (103 : Int) from ((show F446 (n308) (103 : Int) = F401 (n308) (103 : Int) from hM450 _ _ ho432.1 (own_z ho432.1) (by rw [ho432.2]; rfl)).trans (show F401 (n308) (103 : Int) = F354 (n308) (103 : Int) from hM404 _ _ ho388.1 (own_z ho388.1) (by rw [ho388.2]; rfl)))]; omega) (by decide) (Or.inl (by decide))
          refine jx_ld (pc_q := 90) (l_q := L330) (st_q := [rv (p)]) rfl (jl_rvn g332) ?_
          refine jx_ld (pc_q := 91) (l_q := L330) (st_q := [rv (la), rv (p)]) rfl (jl_rvn g335) ?_
          refine jx_ld (pc_q := 93) (l_q := L330) (st_q := [rv (n308), rv (la), rv (p)]) rfl (jl_rv g336) ?_
          have q497 := w495.1
          have q498 := w495.2.1
          have q499 := w495.2.2.1
          rw [← cV_gh (F := F491) (a := n308) (j := 100) (z := 59 - 2 * lv) (Or.inr ⟨by decide, by rw [ho484.2]; decide⟩)]
          obtain ⟨F500, eF500⟩ : ∃ q, q = uF F491 (n308) (100 : Int) (59 - 2 * lv) := ⟨_, rfl⟩
          rw [← eF500]
          have hC501 : HC 0 m445 tg445 ln445 F500 := by rw [eF500]; exact HC_gh hC492 (by rw [ho484.2]; decide) (by decide)
          have hM502 : Fq p [(7, 15), (9, 2), (9, 3), (10, 0), (10, 1), (10, 2), (10, 8), (10, 9), (11, 8), (11, 12), (11, 13), (11, 14), (11, 15), (11, 16), (11, 17), (11, 18)] m tg F F500 := by rw [eF500]; exact Fq_x hM493 (Or.inr ex308)
          have w503 : WK F500 p (60 - 2 * lv) := by rw [eF500]; exact WK_un w494 hC492 ho482.1 ho482.2 ho484.2 (by rw [show F491 (n308) (103 : Int) = F354 (n308) (103 : Int) from ((show F491 (n308) (103 : Int) = F446 (n308) (103 : Int) from by rw [eF491]; exact uF_j (by decide)).trans ((show F446 (n308) (103 : Int) = F401 (n308) (103 : Int) from hM450 _ _ ho432.1 (own_z ho432.1) (by rw [ho432.2]; rfl)).trans (show F401 (n308) (103 : Int) = F354 (n308) (103 : Int) from hM404 _ _ ho388.1 (own_z ho388.1) (by rw [ho388.2]; rfl))))]; omega) (by omega)
          rw [← cV_gh (F := F500) (a := n308) (j := 103) (z := 1) (Or.inr ⟨by decide, by rw [ho484.2]; decide⟩)]
          obtain ⟨F504, eF504⟩ : ∃ q, q = uF F500 (n308) (103 : Int) (1) := ⟨_, rfl⟩
          rw [← eF504]
          have hC505 : HC 0 m445 tg445 ln445 F504 := by rw [eF504]; exact HC_gh hC501 (by rw [ho484.2]; decide) (by decide)
          have hM506 : Fq p [(7, 15), (9, 2), (9, 3), (10, 0), (10, 1), (10, 2), (10, 8), (10, 9), (11, 8), (11, 12), (11, 13), (11, 14), (11, 15), (11, 16), (11, 17), (11, 18)] m tg F F504 := by rw [eF504]; exact Fq_x hM502 (Or.inr ex308)
          have w507 : WK F504 p (60 - 2 * lv) := by rw [eF504]; exact WK_un w503 hC501 ho482.1 ho482.2 ho484.2 (by rw [show F500 (n308) (103 : Int) = F354 (n308) (103 : Int) from ((show F500 (n308) (103 : Int) = F491 (n308) (103 : Int) from by rw [eF500]; exact uF_j (by decide)).trans ((show F491 (n308) (103 : Int) = F446 (n308) (103 : Int) from by rw [eF491]; exact uF_j (by decide)).trans ((show F446 (n308) (103 : Int) = F401 (n308) (103 : Int) from hM450 _ _ ho432.1 (own_z ho432.1) (by rw [ho432.2]; rfl)).trans (show F401 (n308) (103 : Int) = F354 (n308) (103 : Int) from hM404 _ _ ho388.1 (own_z ho388.1) (by rw [ho388.2]; rfl)))))]; omega) (by omega)
          have c508 : NP m445 tg445 F504 := by rw [eF504, eF500]; exact NP_seal hC492 c496 ho484.1 ho484.2 w495 (by omega)
          refine cx_st (st := []) (as := [rv (p), rv (la), rv (n308)]) rfl rfl rfl ⟨rfl, (Nat.le_of_ble_eq_true rfl)⟩ rfl (k_LParser_append (dd := d) (R := R) (m := m445) (tg := tg445) (ln := ln445) (F := F504) (p := p) (la := la) (ch := n308) (hd := by omega) (hC := hC505) (o_p := ho482.1) (t_p := ho482.2) (y_la := (Or.inr ⟨ho483.1, ho483.2⟩)) (o_ch := ho484.1) (t_ch := ho484.2)) (fun o V_q hq => ?_)
          obtain ⟨z509, hz509, rfl, hq⟩ := hq
          rcases hq with ⟨hlz509, rfl⟩ | ⟨hlz509, rfl⟩
          · have _q := hlz509
            exact absurd hlz509 (own_z ho483.1)
          · have _q := hlz509
            refine Or.inr (Or.inl ⟨_, rfl, ?_⟩)
            obtain ⟨F510, eF510⟩ : ∃ q, q = uF F504 (la) (8 : Int) (n308) := ⟨_, rfl⟩
            rw [← eF510]
            have hC511 : HC 0 m445 tg445 ln445 F510 := by rw [eF510]; exact HC_fr (c := 7) (q := 8) (by decide) hC505 ho483.2 (by decide) rfl (Or.inr ⟨ho484.1, ho484.2⟩) ⟨fun w => absurd w (by decide), fun w => absurd w (by decide)⟩
            have hM512 : Fq p [(7, 15), (9, 2), (9, 3), (10, 0), (10, 1), (10, 2), (10, 8), (10, 9), (11, 8), (11, 12), (11, 13), (11, 14), (11, 15), (11, 16), (11, 17), (11, 18)] m tg F F510 := by rw [eF510]; exact Fq_x hM506 (Or.inr (by omega))
            have w513 : WK F510 p (60 - 2 * lv) := by rw [eF510]; exact WK_8 w507 (by omega)
            have c514 : NP m445 tg445 F510 := by rw [eF510]; exact NP_nx hC505 c508 ho483.1 ho483.2 (by rw [show F504 (la) (103 : Int) = Fx (la) (103 : Int) from ((show F504 (la) (103 : Int) = F500 (la) (103 : Int) from by rw [eF504]; exact uF_a (by omega)).trans ((show F500 (la) (103 : Int) = F491 (la) (103 : Int) from by rw [eF500]; exact uF_j (by decide)).trans ((show F491 (la) (103 : Int) = F446 (la) (103 : Int) from by rw [eF491]; exact uF_j (by decide)).trans ((show F446 (la) (103 : Int) = F401 (la) (103 : Int) from hM450 _ _ ho431.1 (own_z ho431.1) (by rw [ho431.2]; rfl)).trans ((show F401 (la) (103 : Int) = F354 (la) (103 : Int) from hM404 _ _ ho387.1 (own_z ho387.1) (by rw [ho387.2]; rfl)).trans ((show F354 (la) (103 : Int) = F322 (la) (103 : Int) from hM357 _ _ ho314.1 (by omega) (by rw [ho314.2]; rfl)).trans ((show F322 (la) (103 : Int) = F308 (la) (103 : Int) from hM324 _ _ ho314.1 (by omega) (by rw [ho314.2]; rfl)).trans (show F308 (la) (103 : Int) = Fx (la) (103 : Int) from hf308 _ _ (ne_n ho297.1 en308)))))))))]; omega) (show F504 (n308) (103 : Int) = 1 from by rw [eF504]; exact uF_e) (by omega) (by rw [show F504 (n308) (100 : Int) = 59 - 2 * lv from ((show F504 (n308) (100 : Int) = F500 (n308) (100 : Int) from by rw [eF504]; exact uF_j (by decide)).trans (show F500 (n308) (100 : Int) = 59 - 2 * lv from by rw [eF500]; exact uF_e))]; rw [show F504 (la) (100 : Int) = Fx (la) (100 : Int) from ((show F504 (la) (100 : Int) = F500 (la) (100 : Int) from by rw [eF504]; exact uF_j (by decide)).trans ((show F500 (la) (100 : Int) = F491 (la) (100 : Int) from by rw [eF500]; exact uF_a (by omega)).trans ((show F491 (la) (100 : Int) = F446 (la) (100 : Int) from by rw [eF491]; exact uF_j (by decide)).trans ((show F446 (la) (100 : Int) = F401 (la) (100 : Int) from hM450 _ _ ho431.1 (own_z ho431.1) (by rw [ho431.2]; rfl)).trans ((show F401 (la) (100 : Int) = F354 (la) (100 : Int) from hM404 _ _ ho387.1 (own_z ho387.1) (by rw [ho387.2]; rfl)).trans ((show F354 (la) (100 : Int) = F322 (la) (100 : Int) from hM357 _ _ ho314.1 (by omega) (by rw [ho314.2]; rfl)).trans ((show F322 (la) (100 : Int) = F308 (la) (100 : Int) from hM324 _ _ ho314.1 (by omega) (by rw [ho314.2]; rfl)).trans (show F308 (la) (100 : Int) = Fx (la) (100 : Int) from hf308 _ _ (ne_n ho297.1 en308)))))))))]; omega) (fun w => absurd (by rw [show F504 (la) (101 : Int) = Fx (la) (101 : Int) from ((show F504 (la) (101 : Int) = F500 (la) (101 : Int) from by rw [eF504]; exact uF_j (by decide)).trans ((show F500 (la) (101 : Int) = F491 (la) (101 : Int) from by rw [eF500]; exact uF_j (by decide)).trans ((show F491 (la) (101 : Int) = F446 (la) (101 : Int) from by rw [eF491]; exact uF_j (by decide)).trans ((show F446 (la) (101 : Int) = F401 (la) (101 : Int) from hM450 _ _ ho431.1 (own_z ho431.1) (by rw [ho431.2]; rfl)).trans ((show F401 (la) (101 : Int) = F354 (la) (101 : Int) from hM404 _ _ ho387.1 (own_z ho387.1) (by rw [ho387.2]; rfl)).trans ((show F354 (la) (101 : Int) = F322 (la) (101 : Int) from hM357 _ _ ho314.1 (by omega) (by rw [ho314.2]; rfl)).trans ((show F322 (la) (101 : Int) = F308 (la) (101 : Int) from hM324 _ _ ho314.1 (by omega) (by rw [ho314.2]; rfl)).trans (show F308 (la) (101 : Int) = Fx (la) (101 : Int) from hf308 _ _ (ne_n ho297.1 en308)))))))))]; omega) w)
            obtain ⟨F515, eF515⟩ : ∃ q, q = uF F510 (p) (2 : Int) (z509) := ⟨_, rfl⟩
            rw [← eF515]
            have hC516 : HC 0 m445 tg445 ln445 F515 := by rw [eF515]; exact HC_fi (c := 7) (q := 2) hC511 ho482.2 (by decide) rfl (by omega) (by omega) ⟨fun w => absurd w (by decide), fun w => absurd w (by decide)⟩
            have hM517 : Fq p [(7, 15), (9, 2), (9, 3), (10, 0), (10, 1), (10, 2), (10, 8), (10, 9), (11, 8), (11, 12), (11, 13), (11, 14), (11, 15), (11, 16), (11, 17), (11, 18)] m tg F F515 := by rw [eF515]; exact Fq_x hM512 (Or.inl rfl)
            have w518 : WK F515 p (60 - 2 * lv) := by rw [eF515]; exact WK_o w513 (by decide)
            have c519 : NP m445 tg445 F515 := by rw [eF515]; exact NP_un hC511 c514 ho482.1 ho482.2 (by rw [show F510 (p) (103 : Int) = Fx (p) (103 : Int) from ((show F510 (p) (103 : Int) = F504 (p) (103 : Int) from by rw [eF510]; exact uF_j (by decide)).trans ((show F504 (p) (103 : Int) = F500 (p) (103 : Int) from by rw [eF504]; exact uF_a (by omega)).trans ((show F500 (p) (103 : Int) = F491 (p) (103 : Int) from by rw [eF500]; exact uF_j (by decide)).trans ((show F491 (p) (103 : Int) = F446 (p) (103 : Int) from by rw [eF491]; exact uF_j (by decide)).trans ((show F446 (p) (103 : Int) = F401 (p) (103 : Int) from hM450 _ _ ho430.1 (own_z ho430.1) (by rw [ho430.2]; rfl)).trans ((show F401 (p) (103 : Int) = F354 (p) (103 : Int) from hM404 _ _ ho386.1 (own_z ho386.1) (by rw [ho386.2]; rfl)).trans ((show F354 (p) (103 : Int) = F322 (p) (103 : Int) from hM357 _ _ ho313.1 (by omega) (by rw [ho313.2]; rfl)).trans ((show F322 (p) (103 : Int) = F308 (p) (103 : Int) from hM324 _ _ ho313.1 (by omega) (by rw [ho313.2]; rfl)).trans (show F308 (p) (103 : Int) = Fx (p) (103 : Int) from hf308 _ _ (ne_n ho4.1 en308))))))))))]; omega) (by decide) (Or.inl (by decide))
            refine jx_ld (pc_q := 97) (l_q := jSto1 L330 3 (rv (n308))) (st_q := []) rfl (js_rvn (by decide)) ?_
            obtain ⟨L520, eL520⟩ : ∃ q : jL, q = jSto1 L330 3 (rv (n308)) := ⟨_, rfl⟩
            rw [← eL520]
            have g521 : jGet L520 0 = some (rv (me)) := eL520 ▸ jg_nr (by decide) g331
            have g522 : jGet L520 1 = some (rv (p)) := eL520 ▸ jg_nr (by decide) g332
            have g523 : jGet L520 2 = some (.int (i32 (lv))) := eL520 ▸ jg_ne (by decide) g333 rfl
            have g524 : jGet L520 4 = some (.int (i32 (k))) := eL520 ▸ jg_ne (by decide) g334 rfl
            have g525 : jGet L520 5 = some (rv (n308)) := eL520 ▸ jg_nr (by decide) g336
            have g526 : jGet L520 3 = some (rv (n308)) := eL520 ▸ jg_eq
            clear eL520
            refine jx_inc (pc_q := 100) (l_q := jSto1 L520 4 (.int (i32 (k + (1))))) (x := k) rfl g524 (by decide) rfl rfl ?_
            obtain ⟨L527, eL527⟩ : ∃ q : jL, q = jSto1 L520 4 (.int (i32 ((k + (1))))) := ⟨_, rfl⟩
            rw [← eL527]
            have g528 : jGet L527 0 = some (rv (me)) := eL527 ▸ jg_nr (by decide) g521
            have g529 : jGet L527 1 = some (rv (p)) := eL527 ▸ jg_nr (by decide) g522
            have g530 : jGet L527 2 = some (.int (i32 (lv))) := eL527 ▸ jg_ne (by decide) g523 rfl
            have g531 : jGet L527 5 = some (rv (n308)) := eL527 ▸ jg_nr (by decide) g525
            have g532 : jGet L527 3 = some (rv (n308)) := eL527 ▸ jg_nr (by decide) g526
            have g533 : jGet L527 4 = some (.int (i32 ((k + (1))))) := eL527 ▸ jg_eq
            clear eL527
            refine jx_go (tg := 29) rfl rfl ?_
            have q534 : F515 (sc) (8 : Int) = F446 (sc) (8 : Int) := ((show F515 (sc) (8 : Int) = F510 (sc) (8 : Int) from by rw [eF515]; exact uF_j (by decide)).trans ((show F510 (sc) (8 : Int) = F504 (sc) (8 : Int) from by rw [eF510]; exact uF_a (fun w => by have q1 := ho485.2; have q2 := ho483.2; rw [w, q2] at q1; exact absurd q1 (by decide))).trans ((show F504 (sc) (8 : Int) = F500 (sc) (8 : Int) from by rw [eF504]; exact uF_j (by decide)).trans ((show F500 (sc) (8 : Int) = F491 (sc) (8 : Int) from by rw [eF500]; exact uF_j (by decide)).trans (show F491 (sc) (8 : Int) = F446 (sc) (8 : Int) from by rw [eF491]; exact uF_j (by decide))))))
            have q535 : F515 (sc) (15 : Int) = F446 (sc) (15 : Int) := ((show F515 (sc) (15 : Int) = F510 (sc) (15 : Int) from by rw [eF515]; exact uF_j (by decide)).trans ((show F510 (sc) (15 : Int) = F504 (sc) (15 : Int) from by rw [eF510]; exact uF_j (by decide)).trans ((show F504 (sc) (15 : Int) = F500 (sc) (15 : Int) from by rw [eF504]; exact uF_j (by decide)).trans ((show F500 (sc) (15 : Int) = F491 (sc) (15 : Int) from by rw [eF500]; exact uF_j (by decide)).trans (show F491 (sc) (15 : Int) = F446 (sc) (15 : Int) from by rw [eF491]; exact uF_j (by decide))))))
            have q536 : tz (F515 (sc) (15 : Int)) = tz (F446 (sc) (15 : Int)) := by rw [q535]
            have q537 := tz_b (F446 (sc) (15 : Int))
            have q538 : F515 (sc) (14 : Int) = F446 (sc) (14 : Int) := ((show F515 (sc) (14 : Int) = F510 (sc) (14 : Int) from by rw [eF515]; exact uF_j (by decide)).trans ((show F510 (sc) (14 : Int) = F504 (sc) (14 : Int) from by rw [eF510]; exact uF_j (by decide)).trans ((show F504 (sc) (14 : Int) = F500 (sc) (14 : Int) from by rw [eF504]; exact uF_j (by decide)).trans ((show F500 (sc) (14 : Int) = F491 (sc) (14 : Int) from by rw [eF500]; exact uF_j (by decide)).trans (show F491 (sc) (14 : Int) = F446 (sc) (14 : Int) from by rw [eF491]; exact uF_j (by decide))))))
            have q539 : lz (F515 (sc) (14 : Int)) = lz (F446 (sc) (14 : Int)) := by rw [q538]
            have q540 := lz_b (F446 (sc) (14 : Int))
            have q541 : F515 (pg) (9 : Int) = F446 (pg) (9 : Int) := ((show F515 (pg) (9 : Int) = F510 (pg) (9 : Int) from by rw [eF515]; exact uF_j (by decide)).trans ((show F510 (pg) (9 : Int) = F504 (pg) (9 : Int) from by rw [eF510]; exact uF_j (by decide)).trans ((show F504 (pg) (9 : Int) = F500 (pg) (9 : Int) from by rw [eF504]; exact uF_j (by decide)).trans ((show F500 (pg) (9 : Int) = F491 (pg) (9 : Int) from by rw [eF500]; exact uF_j (by decide)).trans (show F491 (pg) (9 : Int) = F446 (pg) (9 : Int) from by rw [eF491]; exact uF_j (by decide))))))
            have q542 : F515 (p) (0 : Int) = Fx (p) (0 : Int) := ((show F515 (p) (0 : Int) = F510 (p) (0 : Int) from by rw [eF515]; exact uF_j (by decide)).trans ((show F510 (p) (0 : Int) = F504 (p) (0 : Int) from by rw [eF510]; exact uF_j (by decide)).trans ((show F504 (p) (0 : Int) = F500 (p) (0 : Int) from by rw [eF504]; exact uF_j (by decide)).trans ((show F500 (p) (0 : Int) = F491 (p) (0 : Int) from by rw [eF500]; exact uF_j (by decide)).trans ((show F491 (p) (0 : Int) = F446 (p) (0 : Int) from by rw [eF491]; exact uF_j (by decide)).trans ((show F446 (p) (0 : Int) = F401 (p) (0 : Int) from hM450 _ _ ho430.1 (own_z ho430.1) (by rw [ho430.2]; rfl)).trans ((show F401 (p) (0 : Int) = F354 (p) (0 : Int) from hM404 _ _ ho386.1 (own_z ho386.1) (by rw [ho386.2]; rfl)).trans ((show F354 (p) (0 : Int) = F322 (p) (0 : Int) from hM357 _ _ ho313.1 (by omega) (by rw [ho313.2]; rfl)).trans ((show F322 (p) (0 : Int) = F308 (p) (0 : Int) from hM324 _ _ ho313.1 (by omega) (by rw [ho313.2]; rfl)).trans (show F308 (p) (0 : Int) = Fx (p) (0 : Int) from hf308 _ _ (ne_n ho4.1 en308)))))))))))
            have q543 : F515 (n308) (103 : Int) = 1 := ((show F515 (n308) (103 : Int) = F510 (n308) (103 : Int) from by rw [eF515]; exact uF_j (by decide)).trans ((show F510 (n308) (103 : Int) = F504 (n308) (103 : Int) from by rw [eF510]; exact uF_j (by decide)).trans (show F504 (n308) (103 : Int) = 1 from by rw [eF504]; exact uF_e)))
            have q544 : F515 (n308) (100 : Int) = 59 - 2 * lv := ((show F515 (n308) (100 : Int) = F510 (n308) (100 : Int) from by rw [eF515]; exact uF_j (by decide)).trans ((show F510 (n308) (100 : Int) = F504 (n308) (100 : Int) from by rw [eF510]; exact uF_j (by decide)).trans ((show F504 (n308) (100 : Int) = F500 (n308) (100 : Int) from by rw [eF504]; exact uF_j (by decide)).trans (show F500 (n308) (100 : Int) = 59 - 2 * lv from by rw [eF500]; exact uF_e))))
            have q545 : F515 (n308) (101 : Int) = F354 (n308) (101 : Int) := ((show F515 (n308) (101 : Int) = F510 (n308) (101 : Int) from by rw [eF515]; exact uF_j (by decide)).trans ((show F510 (n308) (101 : Int) = F504 (n308) (101 : Int) from by rw [eF510]; exact uF_j (by decide)).trans ((show F504 (n308) (101 : Int) = F500 (n308) (101 : Int) from by rw [eF504]; exact uF_j (by decide)).trans ((show F500 (n308) (101 : Int) = F491 (n308) (101 : Int) from by rw [eF500]; exact uF_j (by decide)).trans ((show F491 (n308) (101 : Int) = F446 (n308) (101 : Int) from by rw [eF491]; exact uF_j (by decide)).trans ((show F446 (n308) (101 : Int) = F401 (n308) (101 : Int) from hM450 _ _ ho432.1 (own_z ho432.1) (by rw [ho432.2]; rfl)).trans (show F401 (n308) (101 : Int) = F354 (n308) (101 : Int) from hM404 _ _ ho388.1 (own_z ho388.1) (by rw [ho388.2]; rfl))))))))
            exact ih _ (by omega) L527 m445 tg445 ln445 F515 ((k + (1))) (n308) rfl g528 g529 g530 g533 g532 hX487 hC516 hM517 (by omega) (Or.inr ⟨ho484.1, ho484.2⟩) (by omega) (by omega) (by omega) (by omega) (by omega) (by omega) (by omega) (by omega) (by omega) c519 c490 (WK_m w518 (by omega))
set_option maxRecDepth 20000 in
set_option maxHeartbeats 4000000 in
theorem k_LParser_readAlt {X : jX} {kk : Nat} (hE : 1 ≤ kk → PPx X (kk - 1)) {dd : Nat} {R : Nat → jC} {m : Nat} {tg ln : Int → Int} {F : Int → Int → Int} {me p lv : Int} (hd : 6 * kk + 84 ≤ dd) (hC : HC 0 m tg ln F) {sc pg : Int} (o_sc : own m sc) (t_sc : tg sc = 11) (e_sc : F me (1 : Int) = sc) (o_pg : own m pg) (t_pg : tg pg = 10) (e_pg : F me (0 : Int) = pg) (o_me : own m me) (t_me : tg me = 9) (o_p : own m p) (t_p : tg p = 8) (h_lv : (-2147483648 : Int) ≤ lv ∧ lv ≤ 2147483647) (p_0 : F sc (8 : Int) + 2 * tz (F sc (15 : Int)) ≤ F sc (7 : Int) + 1) (p_1 : F sc (8 : Int) + 2 * lz (F sc (14 : Int)) ≤ F sc (7 : Int) + 1) (p_2 : F sc (8 : Int) ≤ F sc (7 : Int)) (p_3 : tz (F sc (15 : Int)) = 1) (p_4 : 0 ≤ lv) (p_5 : lv ≤ 15) (p_6 : 18 ≤ (kk : Int) + lv) (p_7 : F p (0 : Int) = 0) (p_8 : F p (3 : Int) = 0) (p_9 : F p (4 : Int) = 0) (p_10 : F p (5 : Int) = 0) (p_11 : F p (6 : Int) = 0) (p_12 : F p (7 : Int) = 0) (p_13 : F p (8 : Int) = 0) (p_14 : F p (101 : Int) = 0) (p_15 : F p (103 : Int) = 0) (c_NP : NP m tg F) : wk X dd 188 [rv me, rv p, .int (i32 lv)] (cV R m tg ln F) (fun o V_q => (∃ (m_q : Nat) (tg_q ln_q : Int → Int) (F_q : Int → Int → Int), V_q = cV R m_q tg_q ln_q F_q ∧ o = .inl none ∧ Ex m tg ln m_q tg_q ln_q ∧ HC 0 m_q tg_q ln_q F_q ∧ Fq p [(7, 15), (9, 2), (9, 3), (10, 0), (10, 1), (10, 2), (10, 8), (10, 9), (11, 8), (11, 12), (11, 13), (11, 14), (11, 15), (11, 16), (11, 17), (11, 18)] m tg F F_q ∧ (F_q sc (8 : Int) + 2 * tz (F_q sc (15 : Int)) ≤ F sc (7 : Int) + 1) ∧ (F_q sc (8 : Int) + 2 * lz (F_q sc (14 : Int)) ≤ F sc (7 : Int) + 1) ∧ (F sc (8 : Int) ≤ F_q sc (8 : Int)) ∧ (szD m_q tg_q ln_q = szD m tg ln + 25 * ((m_q : Int) - (m : Int))) ∧ ((m_q : Int) ≤ (m : Int) + (F_q sc (8 : Int) - F sc (8 : Int)) + (-1)) ∧ (F_q pg (9 : Int) ≤ F pg (9 : Int) + ((m_q : Int) - (m : Int))) ∧ (WK F_q p (60 - 2 * lv)) ∧ (NP m_q tg_q F_q) ∧ (NM m m_q tg_q) ∧ True) ∨ (∃ (m_q : Nat) (tg_q ln_q : Int → Int) (F_q : Int → Int → Int) (x : Nat), V_q = cV R m_q tg_q ln_q F_q ∧ o = .inr x ∧ Ex m tg ln m_q tg_q ln_q ∧ HC 0 m_q tg_q ln_q F_q ∧ Fq p [(7, 15), (9, 2), (9, 3), (10, 0), (10, 1), (10, 2), (10, 8), (10, 9), (11, 8), (11, 12), (11, 13), (11, 14), (11, 15), (11, 16), (11, 17), (11, 18)] m tg F F_q ∧ (own m_q (x : Int)) ∧ (tg_q (x : Int) = 16) ∧ (F_q pg (0 : Int) ≠ 0) ∧ (szD m_q tg_q ln_q = szD m tg ln + 25 * ((m_q : Int) - (m : Int))) ∧ ((m_q : Int) ≤ (m : Int) + (F_q sc (8 : Int) - F sc (8 : Int)) + (2)) ∧ (F_q sc (8 : Int) ≤ F sc (7 : Int) + 1) ∧ (NP m_q tg_q F_q) ∧ (NM m m_q tg_q) ∧ True)) := by
  obtain ⟨d, rfl⟩ : ∃ d, dd = d + 1 := ⟨dd - 1, by omega⟩
  refine wk_of (e := jm188) rfl (by rw [jS_r, jS_r, jS_i, jS_0]; exact Nat.le_of_ble_eq_true rfl) ?_
  rw [la_r, la_r, la_i, la_0]
  show wj X d jm188 (0, [(0, rv (me)), (1, rv (p)), (2, .int (i32 (lv)))], [], cV R m tg ln F) _
  have hM0 : Fq p [(7, 15), (9, 2), (9, 3), (10, 0), (10, 1), (10, 2), (10, 8), (10, 9), (11, 8), (11, 12), (11, 13), (11, 14), (11, 15), (11, 16), (11, 17), (11, 18)] m tg F F := Fq_r
  have hX0 : Ex m tg ln m tg ln := Ex_r
  obtain ⟨L0, eL0⟩ : ∃ q : jL, q = [(0, rv (me)), (1, rv (p)), (2, .int (i32 (lv)))] := ⟨_, rfl⟩
  rw [← eL0]
  have g546 : jGet L0 0 = some (rv (me)) := eL0 ▸ (rfl : jGet [(0, rv (me)), (1, rv (p)), (2, .int (i32 (lv)))] 0 = some (rv (me)))
  have g547 : jGet L0 1 = some (rv (p)) := eL0 ▸ (rfl : jGet [(0, rv (me)), (1, rv (p)), (2, .int (i32 (lv)))] 1 = some (rv (p)))
  have g548 : jGet L0 2 = some (.int (i32 (lv))) := eL0 ▸ (rfl : jGet [(0, rv (me)), (1, rv (p)), (2, .int (i32 (lv)))] 2 = some (.int (i32 (lv))))
  clear eL0
  have tb0 := tz_b (F sc (15 : Int))
  have lb0 := lz_b (F sc (14 : Int))
  have ob0 : (0 : Int) ≤ F me (3 : Int) ∧ F me (3 : Int) ≤ 8 := HC_i (c := 8) (q := 3) hC o_me t_me (by decide) rfl
  have tp0 : F me (2 : Int) < 64 + (m : Int) := by
    have z : F me (2 : Int) = 0 ∨ (own m (F me (2 : Int)) ∧ tg (F me (2 : Int)) = 7) := HC_r (c := 8) (q := 2) hC o_me t_me (by decide) rfl
    rcases z with w | w
    · omega
    · exact w.1.2.1
  have nz_p := own_z o_p
  refine jx_ld (pc_q := 1) (l_q := L0) (st_q := [rv (me)]) rfl (jl_rvn g546) ?_
  refine cx_gr (pc_q := 4) (c := 8) (q := 1) (v := sc) rfl rfl (by decide) (by decide) rfl rfl o_me t_me e_sc ?_
  have q549 := tz_b (F (sc) (15 : Int))
  have q550 := lz_b (F (sc) (14 : Int))
  refine cx_vi (c := 10) (a := sc) (st := []) (as := []) rfl rfl rfl o_sc t_sc (by decide) rfl ⟨rfl, rfl, (Nat.le_of_ble_eq_true rfl)⟩ rfl (k_LScanner_next (dd := d) (R := R) (m := m) (tg := tg) (ln := ln) (F := F) (me := sc) (hd := by omega) (hC := hC) (o_me := o_sc) (t_me := t_sc) (p_0 := by omega) (p_1 := by omega)) (fun o V_q hq => ?_)
  obtain ⟨F551, rfl, rfl, hC552, hM553, p554, p555, p556, -⟩ := hq
  have hM557 : Fq p [(7, 15), (9, 2), (9, 3), (10, 0), (10, 1), (10, 2), (10, 8), (10, 9), (11, 8), (11, 12), (11, 13), (11, 14), (11, 15), (11, 16), (11, 17), (11, 18)] m tg F F551 := Fq_t (ln := ln) (ln1 := ln) hM0 hX0 hM553 (by decide) (Or.inr (Or.inl rfl))
  have c558 : NP m tg F551 := NP_q hC c_NP hM553 rfl rfl
  refine Or.inl ⟨rfl, ?_⟩
  refine jx_ld (pc_q := 8) (l_q := L0) (st_q := [rv (p)]) rfl (jl_rvn g547) ?_
  refine jx_ar (pc_q := 10) (st_q := [.int (i32 (13)), rv (p)]) rfl rfl rfl rfl ?_
  refine cx_pi (pc_q := 13) (c := 7) (q := 0) (qi := (0 : Int)) (z := 13) rfl rfl (by decide) (by decide) rfl rfl rfl (by decide) rfl o_p t_p rfl ?_
  obtain ⟨F559, eF559⟩ : ∃ q, q = uF F551 (p) (0 : Int) (13) := ⟨_, rfl⟩
  rw [← eF559]
  have hC560 : HC 0 m tg ln F559 := by rw [eF559]; exact HC_fi (c := 7) (q := 0) hC552 t_p (by decide) rfl (by omega) (by omega) ⟨fun w => absurd w (by decide), fun w => absurd w (by decide)⟩
  have hM561 : Fq p [(7, 15), (9, 2), (9, 3), (10, 0), (10, 1), (10, 2), (10, 8), (10, 9), (11, 8), (11, 12), (11, 13), (11, 14), (11, 15), (11, 16), (11, 17), (11, 18)] m tg F F559 := by rw [eF559]; exact Fq_x hM557 (Or.inl rfl)
  have c562 : NP m tg F559 := by rw [eF559]; exact NP_un hC552 c558 o_p t_p (by rw [show F551 (p) (103 : Int) = F (p) (103 : Int) from (show F551 (p) (103 : Int) = F (p) (103 : Int) from hM553 _ _ o_p (own_z o_p) (by rw [t_p]; rfl))]; omega) (by decide) (Or.inl (by decide))
  refine jx_ld (pc_q := 14) (l_q := L0) (st_q := [rv (me)]) rfl (jl_rvn g546) ?_
  have q563 : F559 (sc) (8 : Int) = F551 (sc) (8 : Int) := (show F559 (sc) (8 : Int) = F551 (sc) (8 : Int) from by rw [eF559]; exact uF_j (by decide))
  have q564 : F559 (sc) (15 : Int) = F551 (sc) (15 : Int) := (show F559 (sc) (15 : Int) = F551 (sc) (15 : Int) from by rw [eF559]; exact uF_j (by decide))
  have q565 : tz (F559 (sc) (15 : Int)) = tz (F551 (sc) (15 : Int)) := by rw [q564]
  have q566 := tz_b (F551 (sc) (15 : Int))
  have q567 : F559 (sc) (7 : Int) = F (sc) (7 : Int) := ((show F559 (sc) (7 : Int) = F551 (sc) (7 : Int) from by rw [eF559]; exact uF_j (by decide)).trans (show F551 (sc) (7 : Int) = F (sc) (7 : Int) from hM553 _ _ o_sc (own_z o_sc) (by rw [t_sc]; rfl)))
  have q568 : F559 (sc) (14 : Int) = F551 (sc) (14 : Int) := (show F559 (sc) (14 : Int) = F551 (sc) (14 : Int) from by rw [eF559]; exact uF_j (by decide))
  have q569 : lz (F559 (sc) (14 : Int)) = lz (F551 (sc) (14 : Int)) := by rw [q568]
  have q570 := lz_b (F551 (sc) (14 : Int))
  have q571 : F559 (pg) (9 : Int) = F (pg) (9 : Int) := ((show F559 (pg) (9 : Int) = F551 (pg) (9 : Int) from by rw [eF559]; exact uF_j (by decide)).trans (show F551 (pg) (9 : Int) = F (pg) (9 : Int) from hM553 _ _ o_pg (own_z o_pg) (by rw [t_pg]; rfl)))
  refine cx_vi (c := 8) (a := me) (st := []) (as := []) rfl rfl rfl o_me t_me (by decide) rfl ⟨rfl, rfl, (Nat.le_of_ble_eq_true rfl)⟩ rfl (k_LParser_endLine (dd := d) (R := R) (m := m) (tg := tg) (ln := ln) (F := F559) (me := me) (hd := by omega) (hC := hC560) (o_me := o_me) (t_me := t_me) (sc := sc) (pg := pg) (o_sc := o_sc) (t_sc := t_sc) (e_sc := (((show F559 (me) (1 : Int) = F551 (me) (1 : Int) from by rw [eF559]; exact uF_j (by decide)).trans (show F551 (me) (1 : Int) = F (me) (1 : Int) from hM553 _ _ o_me (own_z o_me) (by rw [t_me]; rfl))).trans e_sc)) (o_pg := o_pg) (t_pg := t_pg) (e_pg := (((show F559 (me) (0 : Int) = F551 (me) (0 : Int) from by rw [eF559]; exact uF_a (fun w => by have q1 := t_me; have q2 := t_p; rw [w, q2] at q1; exact absurd q1 (by decide))).trans (show F551 (me) (0 : Int) = F (me) (0 : Int) from hM553 _ _ o_me (own_z o_me) (by rw [t_me]; rfl))).trans e_pg)) (p_0 := by omega) (p_1 := by omega) (p_2 := by omega) (c_NP := c562)) (fun o V_q hq => ?_)
  obtain ⟨m572, tg572, ln572, F573, rfl, rfl, hx574, hC575, hM576, p577, p578, p579, p580, p581, p582, p583, c584, c585, -⟩ | ⟨m586, tg586, ln586, F586, x586, rfl, rfl, hx586, hC586, hM586, ho586, ht586, p587, p588, p589, p590, c591, c592, -⟩ := hq
  rotate_left
  ·
    have c593 : NM m m586 tg586 := NM_t NM_0 hx586 c592
    have lm594 := hx586.1
    refine Or.inr (Or.inr (Or.inr ⟨_, _, rfl, cx_exc (c := 15) ho586 ht586 (by decide), rfl, ?_⟩))
    have q595 : F559 (sc) (8 : Int) = F551 (sc) (8 : Int) := q563
    have q596 : F559 (sc) (7 : Int) = F (sc) (7 : Int) := q567
    exact Or.inr ⟨m586, tg586, ln586, F586, x586, rfl, rfl, Ex_t hX0 hx586, hC586, Fq_t (ln := ln) (ln1 := ln) hM561 hX0 hM586 (by decide) (Or.inr (Or.inl rfl)), (And.intro ho586 ht586).1, (And.intro ho586 ht586).2, by omega, by omega, by omega, by omega, c591, c593, trivial⟩
  have hM597 : Fq p [(7, 15), (9, 2), (9, 3), (10, 0), (10, 1), (10, 2), (10, 8), (10, 9), (11, 8), (11, 12), (11, 13), (11, 14), (11, 15), (11, 16), (11, 17), (11, 18)] m tg F F573 := Fq_t (ln := ln) (ln1 := ln) hM561 hX0 hM576 (by decide) (Or.inr (Or.inl rfl))
  have lm598 := hx574.1
  have lt599 : p < 64 + (m : Int) := o_p.2.1
  have ho600 : own m572 (me) ∧ tg572 (me) = 9 := Ex_o hx574 ⟨o_me, t_me⟩
  have ho601 : own m572 (p) ∧ tg572 (p) = 8 := Ex_o hx574 ⟨o_p, t_p⟩
  have ho602 : own m572 (sc) ∧ tg572 (sc) = 11 := Ex_o hx574 ⟨o_sc, t_sc⟩
  have ho603 : own m572 (pg) ∧ tg572 (pg) = 10 := Ex_o hx574 ⟨o_pg, t_pg⟩
  have hX604 := Ex_t hX0 hx574
  have c605 : NM m m572 tg572 := NM_t NM_0 hx574 c585
  refine Or.inl ⟨rfl, ?_⟩
  refine jx_ld (pc_q := 18) (l_q := L0) (st_q := [rv (me)]) rfl (jl_rvn g546) ?_
  refine jx_ld (pc_q := 19) (l_q := L0) (st_q := [.int (i32 (lv)), rv (me)]) rfl (jl_iloadn g548) ?_
  refine jx_ar (pc_q := 20) (st_q := [.int (i32 (1)), .int (i32 (lv)), rv (me)]) rfl rfl rfl rfl ?_
  refine jx_add (pc_q := 21) rfl rfl ?_
  have q606 := tz_b (F573 (sc) (15 : Int))
  have q607 : F573 (sc) (7 : Int) = F (sc) (7 : Int) := ((show F573 (sc) (7 : Int) = F559 (sc) (7 : Int) from hM576 _ _ o_sc (own_z o_sc) (by rw [t_sc]; rfl)).trans q567)
  have q608 := lz_b (F573 (sc) (14 : Int))
  have q609 : F573 (pg) (9 : Int) = F (pg) (9 : Int) := ((show F573 (pg) (9 : Int) = F559 (pg) (9 : Int) from hM576 _ _ o_pg (own_z o_pg) (by rw [t_pg]; rfl)).trans q571)
  refine cx_vi (c := 8) (a := me) (st := []) (as := [.int (i32 ((lv + 1)))]) rfl rfl rfl ho600.1 ho600.2 (by decide) rfl ⟨rfl, rfl, (Nat.le_of_ble_eq_true rfl)⟩ rfl (k_LParser_needLevel (dd := d) (R := R) (m := m572) (tg := tg572) (ln := ln572) (F := F573) (me := me) (lv := (lv + 1)) (hd := by omega) (hC := hC575) (o_me := ho600.1) (t_me := ho600.2) (h_lv := by omega) (sc := sc) (pg := pg) (o_sc := ho602.1) (t_sc := ho602.2) (e_sc := (((show F573 (me) (1 : Int) = F559 (me) (1 : Int) from hM576 _ _ o_me (own_z o_me) (by rw [t_me]; rfl)).trans ((show F559 (me) (1 : Int) = F551 (me) (1 : Int) from by rw [eF559]; exact uF_j (by decide)).trans (show F551 (me) (1 : Int) = F (me) (1 : Int) from hM553 _ _ o_me (own_z o_me) (by rw [t_me]; rfl)))).trans e_sc)) (o_pg := ho603.1) (t_pg := ho603.2) (e_pg := (((show F573 (me) (0 : Int) = F559 (me) (0 : Int) from hM576 _ _ o_me (own_z o_me) (by rw [t_me]; rfl)).trans ((show F559 (me) (0 : Int) = F551 (me) (0 : Int) from by rw [eF559]; exact uF_a (fun w => by have q1 := t_me; have q2 := t_p; rw [w, q2] at q1; exact absurd q1 (by decide))).trans (show F551 (me) (0 : Int) = F (me) (0 : Int) from hM553 _ _ o_me (own_z o_me) (by rw [t_me]; rfl)))).trans e_pg)) (p_0 := by omega) (p_1 := by omega) (p_2 := by omega) (c_NP := c584)) (fun o V_q hq => ?_)
  obtain ⟨m610, tg610, ln610, F611, rfl, rfl, hx612, hC613, hM614, p615, p616, p617, p618, p619, p620, p621, p622, p623, c624, c625, -⟩ | ⟨m626, tg626, ln626, F626, x626, rfl, rfl, hx626, hC626, hM626, ho626, ht626, p627, p628, p629, p630, c631, c632, -⟩ := hq
  rotate_left
  ·
    have c633 : NM m m626 tg626 := NM_t c605 hx626 c632
    have lm634 := hx626.1
    refine Or.inr (Or.inr (Or.inr ⟨_, _, rfl, cx_exc (c := 15) ho626 ht626 (by decide), rfl, ?_⟩))
    have q635 : F573 (sc) (7 : Int) = F (sc) (7 : Int) := q607
    exact Or.inr ⟨m626, tg626, ln626, F626, x626, rfl, rfl, Ex_t hX604 hx626, hC626, Fq_t (ln := ln) (ln1 := ln572) hM597 hX604 hM626 (by decide) (Or.inr (Or.inl rfl)), (And.intro ho626 ht626).1, (And.intro ho626 ht626).2, by omega, by omega, by omega, by omega, c631, c633, trivial⟩
  have hM636 : Fq p [(7, 15), (9, 2), (9, 3), (10, 0), (10, 1), (10, 2), (10, 8), (10, 9), (11, 8), (11, 12), (11, 13), (11, 14), (11, 15), (11, 16), (11, 17), (11, 18)] m tg F F611 := Fq_t (ln := ln) (ln1 := ln572) hM597 hX604 hM614 (by decide) (Or.inr (Or.inl rfl))
  have lm637 := hx612.1
  have lt638 : p < 64 + (m572 : Int) := ho601.1.2.1
  have ho639 : own m610 (me) ∧ tg610 (me) = 9 := Ex_o hx612 ⟨ho600.1, ho600.2⟩
  have ho640 : own m610 (p) ∧ tg610 (p) = 8 := Ex_o hx612 ⟨ho601.1, ho601.2⟩
  have ho641 : own m610 (sc) ∧ tg610 (sc) = 11 := Ex_o hx612 ⟨ho602.1, ho602.2⟩
  have ho642 : own m610 (pg) ∧ tg610 (pg) = 10 := Ex_o hx612 ⟨ho603.1, ho603.2⟩
  have hX643 := Ex_t hX604 hx612
  have c644 : NM m m610 tg610 := NM_t c605 hx612 c625
  refine Or.inl ⟨rfl, ?_⟩
  refine jx_ar (pc_q := 25) (st_q := .null :: []) rfl rfl rfl rfl ?_
  rw [← rv_0]
  refine jx_ld (pc_q := 26) (l_q := jSto1 L0 3 (rv (0))) (st_q := []) rfl (js_rvn (by decide)) ?_
  obtain ⟨L645, eL645⟩ : ∃ q : jL, q = jSto1 L0 3 (rv (0)) := ⟨_, rfl⟩
  rw [← eL645]
  have g646 : jGet L645 0 = some (rv (me)) := eL645 ▸ jg_nr (by decide) g546
  have g647 : jGet L645 1 = some (rv (p)) := eL645 ▸ jg_nr (by decide) g547
  have g648 : jGet L645 2 = some (.int (i32 (lv))) := eL645 ▸ jg_ne (by decide) g548 rfl
  have g649 : jGet L645 3 = some (rv (0)) := eL645 ▸ jg_eq
  clear eL645
  refine jx_ar (pc_q := 27) (st_q := [.int (i32 (0))]) rfl rfl rfl rfl ?_
  refine jx_ld (pc_q := 29) (l_q := jSto1 L645 4 (.int (i32 (0)))) (st_q := []) rfl rfl ?_
  obtain ⟨L650, eL650⟩ : ∃ q : jL, q = jSto1 L645 4 (.int (i32 (0))) := ⟨_, rfl⟩
  rw [← eL650]
  have g651 : jGet L650 0 = some (rv (me)) := eL650 ▸ jg_nr (by decide) g646
  have g652 : jGet L650 1 = some (rv (p)) := eL650 ▸ jg_nr (by decide) g647
  have g653 : jGet L650 2 = some (.int (i32 (lv))) := eL650 ▸ jg_ne (by decide) g648 rfl
  have g654 : jGet L650 3 = some (rv (0)) := eL650 ▸ jg_nr (by decide) g649
  have g655 : jGet L650 4 = some (.int (i32 (0))) := eL650 ▸ jg_eq
  clear eL650
  have q656 : F611 (sc) (8 : Int) = F573 (sc) (8 : Int) := (show F611 (sc) (8 : Int) = F573 (sc) (8 : Int) from hM614 _ _ ho602.1 (own_z ho602.1) (by rw [ho602.2]; rfl))
  have q657 : F611 (sc) (15 : Int) = F573 (sc) (15 : Int) := (show F611 (sc) (15 : Int) = F573 (sc) (15 : Int) from hM614 _ _ ho602.1 (own_z ho602.1) (by rw [ho602.2]; rfl))
  have q658 : tz (F611 (sc) (15 : Int)) = tz (F573 (sc) (15 : Int)) := by rw [q657]
  have q659 := tz_b (F573 (sc) (15 : Int))
  have q660 : F611 (sc) (14 : Int) = F573 (sc) (14 : Int) := (show F611 (sc) (14 : Int) = F573 (sc) (14 : Int) from hM614 _ _ ho602.1 (own_z ho602.1) (by rw [ho602.2]; rfl))
  have q661 : lz (F611 (sc) (14 : Int)) = lz (F573 (sc) (14 : Int)) := by rw [q660]
  have q662 := lz_b (F573 (sc) (14 : Int))
  have q663 : F611 (pg) (9 : Int) = F (pg) (9 : Int) := ((show F611 (pg) (9 : Int) = F573 (pg) (9 : Int) from hM614 _ _ ho603.1 (own_z ho603.1) (by rw [ho603.2]; rfl)).trans q609)
  have q664 : F611 (p) (0 : Int) = 13 := ((show F611 (p) (0 : Int) = F573 (p) (0 : Int) from hM614 _ _ ho601.1 (own_z ho601.1) (by rw [ho601.2]; rfl)).trans ((show F573 (p) (0 : Int) = F559 (p) (0 : Int) from hM576 _ _ o_p (own_z o_p) (by rw [t_p]; rfl)).trans (show F559 (p) (0 : Int) = 13 from by rw [eF559]; exact uF_e)))
  exact k_LParser_readAlt_at_29 (X := X) (kk := kk) (hE := hE) (d := d) (R := R) (m := m) (tg := tg) (ln := ln) (F := F) (me := me) (p := p) (lv := lv) (hd := hd) (hC := hC) (sc := sc) (pg := pg) (o_sc := o_sc) (t_sc := t_sc) (e_sc := e_sc) (o_pg := o_pg) (t_pg := t_pg) (e_pg := e_pg) (o_me := o_me) (t_me := t_me) (o_p := o_p) (t_p := t_p) (h_lv := h_lv) (p_0 := p_0) (p_1 := p_1) (p_2 := p_2) (p_3 := p_3) (p_4 := p_4) (p_5 := p_5) (p_6 := p_6) (p_7 := p_7) (p_8 := p_8) (p_9 := p_9) (p_10 := p_10) (p_11 := p_11) (p_12 := p_12) (p_13 := p_13) (p_14 := p_14) (p_15 := p_15) (c_NP := c_NP) _ L650 m610 tg610 ln610 F611 (0) (0) rfl g651 g652 g653 g655 g654 hX643 hC613 hM636 (by omega) (Or.inl rfl) (by omega) (by omega) (by omega) (by omega) (by omega) (by omega) (by omega) (by omega) (by omega) c624 c644 (WK_i (K := 60 - 2 * lv) (by rw [show F611 (p) (103 : Int) = F (p) (103 : Int) from ((show F611 (p) (103 : Int) = F573 (p) (103 : Int) from hM614 _ _ ho601.1 (own_z ho601.1) (by rw [ho601.2]; rfl)).trans ((show F573 (p) (103 : Int) = F559 (p) (103 : Int) from hM576 _ _ o_p (own_z o_p) (by rw [t_p]; rfl)).trans ((show F559 (p) (103 : Int) = F551 (p) (103 : Int) from by rw [eF559]; exact uF_j (by decide)).trans (show F551 (p) (103 : Int) = F (p) (103 : Int) from hM553 _ _ o_p (own_z o_p) (by rw [t_p]; rfl)))))]; omega) (by rw [show F611 (p) (101 : Int) = F (p) (101 : Int) from ((show F611 (p) (101 : Int) = F573 (p) (101 : Int) from hM614 _ _ ho601.1 (own_z ho601.1) (by rw [ho601.2]; rfl)).trans ((show F573 (p) (101 : Int) = F559 (p) (101 : Int) from hM576 _ _ o_p (own_z o_p) (by rw [t_p]; rfl)).trans ((show F559 (p) (101 : Int) = F551 (p) (101 : Int) from by rw [eF559]; exact uF_j (by decide)).trans (show F551 (p) (101 : Int) = F (p) (101 : Int) from hM553 _ _ o_p (own_z o_p) (by rw [t_p]; rfl)))))]; omega) (by rw [show F611 (p) (8 : Int) = F (p) (8 : Int) from ((show F611 (p) (8 : Int) = F573 (p) (8 : Int) from hM614 _ _ ho601.1 (own_z ho601.1) (by rw [ho601.2]; rfl)).trans ((show F573 (p) (8 : Int) = F559 (p) (8 : Int) from hM576 _ _ o_p (own_z o_p) (by rw [t_p]; rfl)).trans ((show F559 (p) (8 : Int) = F551 (p) (8 : Int) from by rw [eF559]; exact uF_j (by decide)).trans (show F551 (p) (8 : Int) = F (p) (8 : Int) from hM553 _ _ o_p (own_z o_p) (by rw [t_p]; rfl)))))]; omega) (Or.inl (by rw [show F611 (p) (4 : Int) = F (p) (4 : Int) from ((show F611 (p) (4 : Int) = F573 (p) (4 : Int) from hM614 _ _ ho601.1 (own_z ho601.1) (by rw [ho601.2]; rfl)).trans ((show F573 (p) (4 : Int) = F559 (p) (4 : Int) from hM576 _ _ o_p (own_z o_p) (by rw [t_p]; rfl)).trans ((show F559 (p) (4 : Int) = F551 (p) (4 : Int) from by rw [eF559]; exact uF_j (by decide)).trans (show F551 (p) (4 : Int) = F (p) (4 : Int) from hM553 _ _ o_p (own_z o_p) (by rw [t_p]; rfl)))))]; omega)) (Or.inl (by rw [show F611 (p) (5 : Int) = F (p) (5 : Int) from ((show F611 (p) (5 : Int) = F573 (p) (5 : Int) from hM614 _ _ ho601.1 (own_z ho601.1) (by rw [ho601.2]; rfl)).trans ((show F573 (p) (5 : Int) = F559 (p) (5 : Int) from hM576 _ _ o_p (own_z o_p) (by rw [t_p]; rfl)).trans ((show F559 (p) (5 : Int) = F551 (p) (5 : Int) from by rw [eF559]; exact uF_j (by decide)).trans (show F551 (p) (5 : Int) = F (p) (5 : Int) from hM553 _ _ o_p (own_z o_p) (by rw [t_p]; rfl)))))]; omega)) (Or.inl (by rw [show F611 (p) (6 : Int) = F (p) (6 : Int) from ((show F611 (p) (6 : Int) = F573 (p) (6 : Int) from hM614 _ _ ho601.1 (own_z ho601.1) (by rw [ho601.2]; rfl)).trans ((show F573 (p) (6 : Int) = F559 (p) (6 : Int) from hM576 _ _ o_p (own_z o_p) (by rw [t_p]; rfl)).trans ((show F559 (p) (6 : Int) = F551 (p) (6 : Int) from by rw [eF559]; exact uF_j (by decide)).trans (show F551 (p) (6 : Int) = F (p) (6 : Int) from hM553 _ _ o_p (own_z o_p) (by rw [t_p]; rfl)))))]; omega)) (Or.inl (by rw [show F611 (p) (7 : Int) = F (p) (7 : Int) from ((show F611 (p) (7 : Int) = F573 (p) (7 : Int) from hM614 _ _ ho601.1 (own_z ho601.1) (by rw [ho601.2]; rfl)).trans ((show F573 (p) (7 : Int) = F559 (p) (7 : Int) from hM576 _ _ o_p (own_z o_p) (by rw [t_p]; rfl)).trans ((show F559 (p) (7 : Int) = F551 (p) (7 : Int) from by rw [eF559]; exact uF_j (by decide)).trans (show F551 (p) (7 : Int) = F (p) (7 : Int) from hM553 _ _ o_p (own_z o_p) (by rw [t_p]; rfl)))))]; omega)) (Or.inl (by rw [show F611 (p) (0 : Int) = 13 from q664]; omega)))
