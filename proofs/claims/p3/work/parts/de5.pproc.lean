set_option maxRecDepth 20000 in
set_option maxHeartbeats 4000000 in
theorem k_LParser_process_at_18 {X : jX} {kk : Nat} (hE : 1 ≤ kk → PPx X (kk - 1)) {d : Nat} {R : Nat → jC} {m : Nat} {tg ln : Int → Int} {F : Int → Int → Int} {me lv : Int} (hd : 6 * kk + 86 ≤ d + 1) (hC : HC 0 m tg ln F) {sc pg : Int} (o_sc : own m sc) (t_sc : tg sc = 11) (e_sc : F me (1 : Int) = sc) (o_pg : own m pg) (t_pg : tg pg = 10) (e_pg : F me (0 : Int) = pg) (o_me : own m me) (t_me : tg me = 9) (h_lv : (-2147483648 : Int) ≤ lv ∧ lv ≤ 2147483647) (p_0 : F sc (8 : Int) + 2 * tz (F sc (15 : Int)) ≤ F sc (7 : Int) + 1) (p_1 : F sc (8 : Int) + 2 * lz (F sc (14 : Int)) ≤ F sc (7 : Int) + 1) (p_2 : 0 ≤ lv) (p_3 : 18 ≤ (kk : Int) + lv) (c_NP : NP m tg F) : ∀ (mm : Nat) (L : jL) (mx : Nat) (tgx lnx : Int → Int) (Fx : Int → Int → Int) (k nm la : Int), (3000 - k).toNat = mm → jGet L 0 = some (rv (me)) → jGet L 1 = some (.int (i32 (lv))) → jGet L 2 = some (rv (F (me) (2 : Int))) → jGet L 5 = some (.int (i32 k)) → jGet L 3 = some (rv nm) → jGet L 4 = some (rv la) → Ex m tg ln mx tgx lnx → HC 0 mx tgx lnx Fx → Fq 0 [(7, 15), (9, 2), (9, 3), (10, 0), (10, 1), (10, 2), (10, 8), (10, 9), (11, 8), (11, 12), (11, 13), (11, 14), (11, 15), (11, 16), (11, 17), (11, 18)] m tg F Fx → ((-2147483648 : Int) ≤ k ∧ k ≤ 2147483647) → (nm = 0 ∨ (own mx nm ∧ tgx nm = 7)) → (la = 0 ∨ (own mx la ∧ tgx la = 7)) → (Fx sc (8 : Int) + 2 * tz (Fx sc (15 : Int)) ≤ F sc (7 : Int) + 1) → (Fx sc (8 : Int) + 2 * lz (Fx sc (14 : Int)) ≤ F sc (7 : Int) + 1) → (Fx pg (9 : Int) ≤ F pg (9 : Int) + ((mx : Int) - (m : Int))) → (F sc (8 : Int) ≤ Fx sc (8 : Int)) → (szD mx tgx lnx = szD m tg ln + 25 * ((mx : Int) - (m : Int))) → ((mx : Int) ≤ (m : Int) + (Fx sc (8 : Int) - F sc (8 : Int)) + (0)) → (0 ≤ k) → (k ≤ 3000) → (lv ≤ 15) → (Fx sc (14 : Int) = lv) → (lz (Fx sc (14 : Int)) = 1) → (la = 0 ∨ (64 + (m : Int) ≤ la ∧ Fx la (14 : Int) = 0)) → (NP mx tgx Fx) → (NM m mx tgx) → wj X d jm177 (18, L, [], cV R mx tgx lnx Fx) (fun o V_q => (∃ (m_q : Nat) (tg_q ln_q : Int → Int) (F_q : Int → Int → Int) (r : Int), V_q = cV R m_q tg_q ln_q F_q ∧ o = .inl (some (rv r)) ∧ Ex m tg ln m_q tg_q ln_q ∧ HC 0 m_q tg_q ln_q F_q ∧ Fq 0 [(7, 15), (9, 2), (9, 3), (10, 0), (10, 1), (10, 2), (10, 8), (10, 9), (11, 8), (11, 12), (11, 13), (11, 14), (11, 15), (11, 16), (11, 17), (11, 18)] m tg F F_q ∧ (own m_q r ∧ tg_q r = 8) ∧ (F_q sc (8 : Int) + 2 * tz (F_q sc (15 : Int)) ≤ F sc (7 : Int) + 1) ∧ (F_q sc (8 : Int) + 2 * lz (F_q sc (14 : Int)) ≤ F sc (7 : Int) + 1) ∧ (F sc (8 : Int) ≤ F_q sc (8 : Int)) ∧ (szD m_q tg_q ln_q = szD m tg ln + 25 * ((m_q : Int) - (m : Int))) ∧ ((m_q : Int) ≤ (m : Int) + (F_q sc (8 : Int) - F sc (8 : Int)) + (0)) ∧ (F_q pg (9 : Int) ≤ F pg (9 : Int) + ((m_q : Int) - (m : Int))) ∧ (64 + (m : Int) ≤ r) ∧ (F_q r (103 : Int) = 1) ∧ (F_q r (100 : Int) = 60 - 2 * lv) ∧ (F_q r (101 : Int) = 0) ∧ (F_q r (8 : Int) = 0) ∧ (F_q me (2 : Int) = F me (2 : Int)) ∧ (NP m_q tg_q F_q) ∧ (NM m m_q tg_q) ∧ True) ∨ (∃ (m_q : Nat) (tg_q ln_q : Int → Int) (F_q : Int → Int → Int) (x : Nat), V_q = cV R m_q tg_q ln_q F_q ∧ o = .inr x ∧ Ex m tg ln m_q tg_q ln_q ∧ HC 0 m_q tg_q ln_q F_q ∧ Fq 0 [(7, 15), (9, 2), (9, 3), (10, 0), (10, 1), (10, 2), (10, 8), (10, 9), (11, 8), (11, 12), (11, 13), (11, 14), (11, 15), (11, 16), (11, 17), (11, 18)] m tg F F_q ∧ (own m_q (x : Int)) ∧ (tg_q (x : Int) = 16) ∧ (F_q pg (0 : Int) ≠ 0) ∧ (szD m_q tg_q ln_q = szD m tg ln + 25 * ((m_q : Int) - (m : Int))) ∧ ((m_q : Int) ≤ (m : Int) + (F_q sc (8 : Int) - F sc (8 : Int)) + (3)) ∧ (F_q sc (8 : Int) ≤ F sc (7 : Int) + 1) ∧ (NP m_q tg_q F_q) ∧ (NM m m_q tg_q) ∧ True)) := by
  intro mm
  induction mm using Nat.strongRecOn with
  | ind mm ih =>
    intro L mx tgx lnx Fx k nm la hmm gL_0 gL_1 gL_2 gL_5 gL_3 gL_4 hXx hCx hMx rx_k yx_nm yx_la iv_0 iv_1 iv_2 iv_3 iv_4 iv_5 iv_6 iv_7 iv_8 iv_9 iv_10 iv_11 cx_NP cx_NM
    have hX0 : Ex m tg ln m tg ln := Ex_r
    have lm1 := hXx.1
    have ho2 : own mx (me) ∧ tgx (me) = 9 := Ex_o hXx ⟨o_me, t_me⟩
    have ho3 : own mx (sc) ∧ tgx (sc) = 11 := Ex_o hXx ⟨o_sc, t_sc⟩
    have ho4 : own mx (pg) ∧ tgx (pg) = 10 := Ex_o hXx ⟨o_pg, t_pg⟩
    have hX5 := Ex_t hX0 hXx
    have y6 : F (me) (2 : Int) = 0 ∨ (own mx (F (me) (2 : Int)) ∧ tgx (F (me) (2 : Int)) = 7) := Ex_z hXx (HC_r (c := 8) (q := 2) hC o_me t_me (by decide) rfl)
    have tb0 := tz_b (F sc (15 : Int))
    have lb0 := lz_b (F sc (14 : Int))
    have tb1 := tz_b (Fx sc (15 : Int))
    have lb1 := lz_b (Fx sc (14 : Int))
    have ob0 : (0 : Int) ≤ F me (3 : Int) ∧ F me (3 : Int) ≤ 8 := HC_i (c := 8) (q := 3) hC o_me t_me (by decide) rfl
    have tp0 : F me (2 : Int) < 64 + (m : Int) := by
      have z : F me (2 : Int) = 0 ∨ (own m (F me (2 : Int)) ∧ tg (F me (2 : Int)) = 7) := HC_r (c := 8) (q := 2) hC o_me t_me (by decide) rfl
      rcases z with w | w
      · omega
      · exact w.1.2.1
    by_cases h7 : la = 0
    · have _q := h7
      refine jx_ld (pc_q := 20) (l_q := L) (st_q := [.int (i32 (k))]) rfl (jl_iload gL_5) ?_
      refine jx_ar (pc_q := 23) (st_q := [.int (i32 (3000)), .int (i32 (k))]) rfl rfl rfl rfl ?_
      refine jx_icmp_ge (pc_q := 26) (tg := 74) rfl rfl rfl (by omega) (by omega) (by decide) (by decide) (fun h8 => ?_) (fun h8 => ?_)
      · have _q := h8
        refine cx_newp (pc_q := 77) (c := 7) rfl rfl (by decide) rfl rfl hCx rfl (by decide) (fun n9 m9 tg9 ln9 F9 en9 em9 ho9 hx9 hC9 hf9 h09 hs9 => ?_)
        have ex9 : 64 + (m : Int) ≤ n9 := by have := hXx.1; omega
        have lm10 := hx9.1
        have lt11 : F (me) (2 : Int) < 64 + (mx : Int) := by rcases y6 with w | w; (· omega); exact w.1.2.1
        have lt12 : nm < 64 + (mx : Int) := by rcases yx_nm with w | w; (· omega); exact w.1.2.1
        have lt13 : la < 64 + (mx : Int) := by rcases yx_la with w | w; (· omega); exact w.1.2.1
        have ho14 : own m9 (me) ∧ tg9 (me) = 9 := Ex_o hx9 ⟨ho2.1, ho2.2⟩
        have y15 : F (me) (2 : Int) = 0 ∨ (own m9 (F (me) (2 : Int)) ∧ tg9 (F (me) (2 : Int)) = 7) := Ex_z hx9 y6
        have y16 : nm = 0 ∨ (own m9 (nm) ∧ tg9 (nm) = 7) := Ex_z hx9 yx_nm
        have y17 : la = 0 ∨ (own m9 (la) ∧ tg9 (la) = 7) := Ex_z hx9 yx_la
        have ho18 : own m9 (sc) ∧ tg9 (sc) = 11 := Ex_o hx9 ⟨ho3.1, ho3.2⟩
        have ho19 : own m9 (pg) ∧ tg9 (pg) = 10 := Ex_o hx9 ⟨ho4.1, ho4.2⟩
        have hX20 := Ex_t hXx hx9
        have hM21 : Fq 0 [(7, 15), (9, 2), (9, 3), (10, 0), (10, 1), (10, 2), (10, 8), (10, 9), (11, 8), (11, 12), (11, 13), (11, 14), (11, 15), (11, 16), (11, 17), (11, 18)] m tg F F9 := Fq_n hMx hf9 ex9
        have c22 : NM m m9 tg9 := NM_n cx_NM hCx.1 hx9 en9 em9 ho9.2 (by decide)
        refine jx_ar (pc_q := 78) (st_q := [rv (n9), rv (n9)]) rfl rfl ja_dup rfl ?_
        refine jx_ar (pc_q := 79) (st_q := [.int (i32 (0)), rv (n9), rv (n9)]) rfl rfl rfl rfl ?_
        refine jx_ld (pc_q := 80) (l_q := L) (st_q := [rv (me), .int (i32 (0)), rv (n9), rv (n9)]) rfl (jl_rvn gL_0) ?_
        refine cx_gr (pc_q := 83) (c := 8) (q := 1) (v := sc) rfl rfl (by decide) (by decide) rfl rfl ho14.1 ho14.2 (((show F9 (me) (1 : Int) = Fx (me) (1 : Int) from hf9 _ _ (ne_n ho2.1 en9)).trans (show Fx (me) (1 : Int) = F (me) (1 : Int) from hMx _ _ o_me (own_z o_me) (by rw [t_me]; rfl))).trans e_sc) ?_
        refine cx_gi (pc_q := 86) (c := 10) (q := 13) (v := Fx (sc) (13 : Int)) rfl rfl (by decide) (by decide) (Or.inl rfl) rfl ho18.1 ho18.2 (show F9 (sc) (13 : Int) = Fx (sc) (13 : Int) from hf9 _ _ (ne_n ho3.1 en9)) ?_
        have b23 : (-2147483648 : Int) ≤ Fx (sc) (13 : Int) ∧ Fx (sc) (13 : Int) ≤ 2147483647 := by have z := HC_i (c := 10) (q := 13) hC9 ho18.1 ho18.2 (by decide) rfl; rw [show F9 (sc) ((13 : Nat) : Int) = Fx (sc) (13 : Int) from (show F9 (sc) (13 : Int) = Fx (sc) (13 : Int) from hf9 _ _ (ne_n ho3.1 en9))] at z; exact z
        refine cx_sp (kd := 2) (a := n9) (st := [rv (n9)]) (as := [.int (i32 (0)), .int (i32 (Fx (sc) (13 : Int)))]) rfl rfl (by decide) rfl ho9.1.1 ⟨rfl, (by rw [jS_r, jS_0]; exact Nat.le_of_ble_eq_true rfl)⟩ rfl (k_LNode_init (dd := d) (R := R) (m := m9) (tg := tg9) (ln := ln9) (F := F9) (me := n9) (kd := 0) (l := Fx (sc) (13 : Int)) (hd := by omega) (hC := hC9) (o_me := ho9.1) (t_me := ho9.2) (h_kd := by omega) (h_l := by omega) (z_me := h09)) (fun o V_q hq => ?_)
        obtain ⟨F24, rfl, rfl, hC25, hM26, p27, zp28, -⟩ := hq
        have hM29 : Fq 0 [(7, 15), (9, 2), (9, 3), (10, 0), (10, 1), (10, 2), (10, 8), (10, 9), (11, 8), (11, 12), (11, 13), (11, 14), (11, 15), (11, 16), (11, 17), (11, 18)] m tg F F24 := Fq_t (ln := ln) (ln1 := ln9) hM21 hX20 hM26 (by decide) (Or.inr (Or.inr ex9))
        have c30 : NP m9 tg9 F24 := NP_nn hCx cx_NP hx9 en9 em9 (fun b i ob => (hM26 b i (own_m ob hx9.1) (ne_n ob en9) rfl).trans (hf9 b i (ne_n ob en9))) (fun _ => (zp28 _ (by decide) (by decide))) (fun w => absurd (ho9.2.symm.trans w) (by decide)) (fun w => absurd (ho9.2.symm.trans w) (by decide))
        refine Or.inl ⟨rfl, ?_⟩
        refine jx_ld (pc_q := 91) (l_q := jSto1 L 5 (rv (n9))) (st_q := []) rfl (js_rv (by decide)) ?_
        obtain ⟨L31, eL31⟩ : ∃ q : jL, q = jSto1 L 5 (rv (n9)) := ⟨_, rfl⟩
        rw [← eL31]
        have g32 : jGet L31 0 = some (rv (me)) := eL31 ▸ jg_nr (by decide) gL_0
        have g33 : jGet L31 1 = some (.int (i32 (lv))) := eL31 ▸ jg_ne (by decide) gL_1 rfl
        have g34 : jGet L31 2 = some (rv (F (me) (2 : Int))) := eL31 ▸ jg_nr (by decide) gL_2
        have g35 : jGet L31 3 = some (rv (nm)) := eL31 ▸ jg_nr (by decide) gL_3
        have g36 : jGet L31 4 = some (rv (la)) := eL31 ▸ jg_nr (by decide) gL_4
        have g37 : jGet L31 5 = some (rv (n9)) := eL31 ▸ jg_eq
        clear eL31
        refine jx_ld (pc_q := 93) (l_q := L31) (st_q := [rv (n9)]) rfl (jl_rv g37) ?_
        refine jx_ld (pc_q := 94) (l_q := L31) (st_q := [rv (nm), rv (n9)]) rfl (jl_rvn g35) ?_
        refine cx_po (pc_q := 97) (c := 7) (q := 9) (qi := (9 : Int)) (z := nm) rfl rfl (by decide) (by decide) rfl rfl rfl (by decide) rfl ho9.1 ho9.2 rfl ?_
        obtain ⟨F38, eF38⟩ : ∃ q, q = uF F24 (n9) (9 : Int) (nm) := ⟨_, rfl⟩
        rw [← eF38]
        have hC39 : HC 0 m9 tg9 ln9 F38 := by rw [eF38]; exact HC_fr (c := 7) (q := 9) (by decide) hC25 ho9.2 (by decide) rfl y16 ⟨fun w => absurd w (by decide), fun w => absurd w (by decide)⟩
        have hM40 : Fq 0 [(7, 15), (9, 2), (9, 3), (10, 0), (10, 1), (10, 2), (10, 8), (10, 9), (11, 8), (11, 12), (11, 13), (11, 14), (11, 15), (11, 16), (11, 17), (11, 18)] m tg F F38 := by rw [eF38]; exact Fq_x hM29 (Or.inr ex9)
        have c41 : NP m9 tg9 F38 := by rw [eF38]; exact NP_un hC25 c30 ho9.1 ho9.2 (show F24 (n9) (103 : Int) = 0 from zp28 _ (by decide) (by decide)) (by decide) (Or.inl (by decide))
        refine jx_ld (pc_q := 98) (l_q := L31) (st_q := [rv (me)]) rfl (jl_rvn g32) ?_
        refine jx_ld (pc_q := 100) (l_q := L31) (st_q := [rv (n9), rv (me)]) rfl (jl_rv g37) ?_
        refine jx_ld (pc_q := 101) (l_q := L31) (st_q := [.int (i32 (lv)), rv (n9), rv (me)]) rfl (jl_iloadn g33) ?_
        have q42 : F38 (sc) (8 : Int) = Fx (sc) (8 : Int) := ((show F38 (sc) (8 : Int) = F24 (sc) (8 : Int) from by rw [eF38]; exact uF_j (by decide)).trans ((show F24 (sc) (8 : Int) = F9 (sc) (8 : Int) from hM26 _ _ ho18.1 (fun w => by have q1 := ho18.2; rw [w, ho9.2] at q1; exact absurd q1 (by decide)) (by rw [ho18.2]; rfl)).trans (show F9 (sc) (8 : Int) = Fx (sc) (8 : Int) from hf9 _ _ (ne_n ho3.1 en9))))
        have q43 : F38 (sc) (15 : Int) = Fx (sc) (15 : Int) := ((show F38 (sc) (15 : Int) = F24 (sc) (15 : Int) from by rw [eF38]; exact uF_j (by decide)).trans ((show F24 (sc) (15 : Int) = F9 (sc) (15 : Int) from hM26 _ _ ho18.1 (fun w => by have q1 := ho18.2; rw [w, ho9.2] at q1; exact absurd q1 (by decide)) (by rw [ho18.2]; rfl)).trans (show F9 (sc) (15 : Int) = Fx (sc) (15 : Int) from hf9 _ _ (ne_n ho3.1 en9))))
        have q44 : tz (F38 (sc) (15 : Int)) = tz (Fx (sc) (15 : Int)) := by rw [q43]
        have q45 := tz_b (Fx (sc) (15 : Int))
        have q46 : F38 (sc) (7 : Int) = F (sc) (7 : Int) := ((show F38 (sc) (7 : Int) = F24 (sc) (7 : Int) from by rw [eF38]; exact uF_j (by decide)).trans ((show F24 (sc) (7 : Int) = F9 (sc) (7 : Int) from hM26 _ _ ho18.1 (fun w => by have q1 := ho18.2; rw [w, ho9.2] at q1; exact absurd q1 (by decide)) (by rw [ho18.2]; rfl)).trans ((show F9 (sc) (7 : Int) = Fx (sc) (7 : Int) from hf9 _ _ (ne_n ho3.1 en9)).trans (show Fx (sc) (7 : Int) = F (sc) (7 : Int) from hMx _ _ o_sc (own_z o_sc) (by rw [t_sc]; rfl)))))
        have q47 : F38 (sc) (14 : Int) = Fx (sc) (14 : Int) := ((show F38 (sc) (14 : Int) = F24 (sc) (14 : Int) from by rw [eF38]; exact uF_j (by decide)).trans ((show F24 (sc) (14 : Int) = F9 (sc) (14 : Int) from hM26 _ _ ho18.1 (fun w => by have q1 := ho18.2; rw [w, ho9.2] at q1; exact absurd q1 (by decide)) (by rw [ho18.2]; rfl)).trans (show F9 (sc) (14 : Int) = Fx (sc) (14 : Int) from hf9 _ _ (ne_n ho3.1 en9))))
        have q48 : lz (F38 (sc) (14 : Int)) = lz (Fx (sc) (14 : Int)) := by rw [q47]
        have q49 := lz_b (Fx (sc) (14 : Int))
        have q50 : F38 (n9) (0 : Int) = F24 (n9) (0 : Int) := (show F38 (n9) (0 : Int) = F24 (n9) (0 : Int) from by rw [eF38]; exact uF_j (by decide))
        have q51 : F38 (n9) (3 : Int) = 0 := ((show F38 (n9) (3 : Int) = F24 (n9) (3 : Int) from by rw [eF38]; exact uF_j (by decide)).trans (show F24 (n9) (3 : Int) = 0 from zp28 _ (by decide) (by decide)))
        have q52 : F38 (n9) (4 : Int) = 0 := ((show F38 (n9) (4 : Int) = F24 (n9) (4 : Int) from by rw [eF38]; exact uF_j (by decide)).trans (show F24 (n9) (4 : Int) = 0 from zp28 _ (by decide) (by decide)))
        have q53 : F38 (n9) (5 : Int) = 0 := ((show F38 (n9) (5 : Int) = F24 (n9) (5 : Int) from by rw [eF38]; exact uF_j (by decide)).trans (show F24 (n9) (5 : Int) = 0 from zp28 _ (by decide) (by decide)))
        have q54 : F38 (n9) (6 : Int) = 0 := ((show F38 (n9) (6 : Int) = F24 (n9) (6 : Int) from by rw [eF38]; exact uF_j (by decide)).trans (show F24 (n9) (6 : Int) = 0 from zp28 _ (by decide) (by decide)))
        have q55 : F38 (n9) (7 : Int) = 0 := ((show F38 (n9) (7 : Int) = F24 (n9) (7 : Int) from by rw [eF38]; exact uF_j (by decide)).trans (show F24 (n9) (7 : Int) = 0 from zp28 _ (by decide) (by decide)))
        have q56 : F38 (n9) (8 : Int) = 0 := ((show F38 (n9) (8 : Int) = F24 (n9) (8 : Int) from by rw [eF38]; exact uF_j (by decide)).trans (show F24 (n9) (8 : Int) = 0 from zp28 _ (by decide) (by decide)))
        have q57 : F38 (n9) (101 : Int) = 0 := ((show F38 (n9) (101 : Int) = F24 (n9) (101 : Int) from by rw [eF38]; exact uF_j (by decide)).trans (show F24 (n9) (101 : Int) = 0 from zp28 _ (by decide) (by decide)))
        have q58 : F38 (n9) (103 : Int) = 0 := ((show F38 (n9) (103 : Int) = F24 (n9) (103 : Int) from by rw [eF38]; exact uF_j (by decide)).trans (show F24 (n9) (103 : Int) = 0 from zp28 _ (by decide) (by decide)))
        have q59 : F38 (pg) (9 : Int) = Fx (pg) (9 : Int) := ((show F38 (pg) (9 : Int) = F24 (pg) (9 : Int) from by rw [eF38]; exact uF_a (fun w => by have q1 := ho19.2; have q2 := ho9.2; rw [w, q2] at q1; exact absurd q1 (by decide))).trans ((show F24 (pg) (9 : Int) = F9 (pg) (9 : Int) from hM26 _ _ ho19.1 (fun w => by have q1 := ho19.2; rw [w, ho9.2] at q1; exact absurd q1 (by decide)) (by rw [ho19.2]; rfl)).trans (show F9 (pg) (9 : Int) = Fx (pg) (9 : Int) from hf9 _ _ (ne_n ho4.1 en9))))
        refine cx_vi (c := 8) (a := me) (st := []) (as := [rv (n9), .int (i32 (lv))]) rfl rfl rfl ho14.1 ho14.2 (by decide) rfl ⟨rfl, rfl, (Nat.le_of_ble_eq_true rfl)⟩ rfl (k_LParser_readStatement (dd := d) (R := R) (m := m9) (tg := tg9) (ln := ln9) (F := F38) (kk := kk) (hE := hE) (me := me) (p := n9) (lv := lv) (hd := by omega) (hC := hC39) (o_me := ho14.1) (t_me := ho14.2) (o_p := ho9.1) (t_p := ho9.2) (h_lv := by omega) (sc := sc) (pg := pg) (o_sc := ho18.1) (t_sc := ho18.2) (e_sc := (((show F38 (me) (1 : Int) = F24 (me) (1 : Int) from by rw [eF38]; exact uF_j (by decide)).trans ((show F24 (me) (1 : Int) = F9 (me) (1 : Int) from hM26 _ _ ho14.1 (fun w => by have q1 := ho14.2; rw [w, ho9.2] at q1; exact absurd q1 (by decide)) (by rw [ho14.2]; rfl)).trans ((show F9 (me) (1 : Int) = Fx (me) (1 : Int) from hf9 _ _ (ne_n ho2.1 en9)).trans (show Fx (me) (1 : Int) = F (me) (1 : Int) from hMx _ _ o_me (own_z o_me) (by rw [t_me]; rfl))))).trans e_sc)) (o_pg := ho19.1) (t_pg := ho19.2) (e_pg := (((show F38 (me) (0 : Int) = F24 (me) (0 : Int) from by rw [eF38]; exact uF_j (by decide)).trans ((show F24 (me) (0 : Int) = F9 (me) (0 : Int) from hM26 _ _ ho14.1 (fun w => by have q1 := ho14.2; rw [w, ho9.2] at q1; exact absurd q1 (by decide)) (by rw [ho14.2]; rfl)).trans ((show F9 (me) (0 : Int) = Fx (me) (0 : Int) from hf9 _ _ (ne_n ho2.1 en9)).trans (show Fx (me) (0 : Int) = F (me) (0 : Int) from hMx _ _ o_me (own_z o_me) (by rw [t_me]; rfl))))).trans e_pg)) (p_0 := by omega) (p_1 := by omega) (p_2 := by omega) (p_3 := by omega) (p_4 := by omega) (p_5 := by omega) (p_6 := by omega) (p_7 := by omega) (p_8 := by omega) (p_9 := by omega) (p_10 := by omega) (p_11 := by omega) (p_12 := by omega) (p_13 := by omega) (p_14 := by omega) (c_NP := c41)) (fun o V_q hq => ?_)
        obtain ⟨m60, tg60, ln60, F61, rfl, rfl, hx62, hC63, hM64, p65, p66, p67, p68, p69, p70, p71, c72, c73, -⟩ | ⟨m74, tg74, ln74, F74, x74, rfl, rfl, hx74, hC74, hM74, ho74, ht74, p75, p76, p77, p78, c79, c80, -⟩ := hq
        rotate_left
        ·
          have c81 : NM m m74 tg74 := NM_t c22 hx74 c80
          have lm82 := hx74.1
          refine Or.inr (Or.inr (Or.inr ⟨_, _, rfl, cx_exc (c := 15) ho74 ht74 (by decide), rfl, ?_⟩))
          have q83 : F38 (sc) (8 : Int) = Fx (sc) (8 : Int) := q42
          have q84 : F38 (sc) (7 : Int) = F (sc) (7 : Int) := q46
          exact Or.inr ⟨m74, tg74, ln74, F74, x74, rfl, rfl, Ex_t hX20 hx74, hC74, Fq_t (ln := ln) (ln1 := ln9) hM40 hX20 hM74 (by decide) (Or.inr (Or.inr ex9)), (And.intro ho74 ht74).1, (And.intro ho74 ht74).2, by omega, by omega, by omega, by omega, c79, c81, trivial⟩
        have hM85 : Fq 0 [(7, 15), (9, 2), (9, 3), (10, 0), (10, 1), (10, 2), (10, 8), (10, 9), (11, 8), (11, 12), (11, 13), (11, 14), (11, 15), (11, 16), (11, 17), (11, 18)] m tg F F61 := Fq_t (ln := ln) (ln1 := ln9) hM40 hX20 hM64 (by decide) (Or.inr (Or.inr ex9))
        have lm86 := hx62.1
        have lt87 : F (me) (2 : Int) < 64 + (m9 : Int) := by rcases y15 with w | w; (· omega); exact w.1.2.1
        have lt88 : nm < 64 + (m9 : Int) := by rcases y16 with w | w; (· omega); exact w.1.2.1
        have lt89 : la < 64 + (m9 : Int) := by rcases y17 with w | w; (· omega); exact w.1.2.1
        have lt90 : n9 < 64 + (m9 : Int) := ho9.1.2.1
        have ho91 : own m60 (me) ∧ tg60 (me) = 9 := Ex_o hx62 ⟨ho14.1, ho14.2⟩
        have y92 : F (me) (2 : Int) = 0 ∨ (own m60 (F (me) (2 : Int)) ∧ tg60 (F (me) (2 : Int)) = 7) := Ex_z hx62 y15
        have y93 : nm = 0 ∨ (own m60 (nm) ∧ tg60 (nm) = 7) := Ex_z hx62 y16
        have y94 : la = 0 ∨ (own m60 (la) ∧ tg60 (la) = 7) := Ex_z hx62 y17
        have ho95 : own m60 (n9) ∧ tg60 (n9) = 8 := Ex_o hx62 ⟨ho9.1, ho9.2⟩
        have ho96 : own m60 (sc) ∧ tg60 (sc) = 11 := Ex_o hx62 ⟨ho18.1, ho18.2⟩
        have ho97 : own m60 (pg) ∧ tg60 (pg) = 10 := Ex_o hx62 ⟨ho19.1, ho19.2⟩
        have hX98 := Ex_t hX20 hx62
        have q99 := p71.1
        have q100 := p71.2.1
        have q101 := p71.2.2.1
        have c102 : NM m m60 tg60 := NM_t c22 hx62 c73
        refine Or.inl ⟨rfl, ?_⟩
        refine jx_ld (pc_q := 105) (l_q := L31) (st_q := [rv (me)]) rfl (jl_rvn g32) ?_
        refine jx_ld (pc_q := 106) (l_q := L31) (st_q := [rv (F (me) (2 : Int)), rv (me)]) rfl (jl_rvn g34) ?_
        refine cx_po (pc_q := 109) (c := 8) (q := 2) (qi := (2 : Int)) (z := F (me) (2 : Int)) rfl rfl (by decide) (by decide) rfl rfl rfl (by decide) rfl ho91.1 ho91.2 rfl ?_
        obtain ⟨F103, eF103⟩ : ∃ q, q = uF F61 (me) (2 : Int) (F (me) (2 : Int)) := ⟨_, rfl⟩
        rw [← eF103]
        have hC104 : HC 0 m60 tg60 ln60 F103 := by rw [eF103]; exact HC_fr (c := 8) (q := 2) (by decide) hC63 ho91.2 (by decide) rfl y92 ⟨fun w => absurd w (by decide), fun w => absurd w (by decide)⟩
        have hM105 : Fq 0 [(7, 15), (9, 2), (9, 3), (10, 0), (10, 1), (10, 2), (10, 8), (10, 9), (11, 8), (11, 12), (11, 13), (11, 14), (11, 15), (11, 16), (11, 17), (11, 18)] m tg F F103 := by rw [eF103]; exact Fq_p hM85 ho91.2 (fun w => (hX98.2 _ w).1) rfl
        have w106 : WK F103 n9 (60 - 2 * lv) := by rw [eF103]; exact WK_u p71 hC63 ho95.1 ho95.2 ho91.2 (by omega)
        have c107 : NP m60 tg60 F103 := by rw [eF103]; exact NP_u hC63 c72 ho91.2 (by omega)
        have q108 := w106.1
        have q109 := w106.2.1
        have q110 := w106.2.2.1
        rw [← cV_gh (F := F103) (a := n9) (j := 100) (z := 60 - 2 * lv) (Or.inr ⟨by decide, by rw [ho95.2]; decide⟩)]
        obtain ⟨F111, eF111⟩ : ∃ q, q = uF F103 (n9) (100 : Int) (60 - 2 * lv) := ⟨_, rfl⟩
        rw [← eF111]
        have hC112 : HC 0 m60 tg60 ln60 F111 := by rw [eF111]; exact HC_gh hC104 (by rw [ho95.2]; decide) (by decide)
        have hM113 : Fq 0 [(7, 15), (9, 2), (9, 3), (10, 0), (10, 1), (10, 2), (10, 8), (10, 9), (11, 8), (11, 12), (11, 13), (11, 14), (11, 15), (11, 16), (11, 17), (11, 18)] m tg F F111 := by rw [eF111]; exact Fq_x hM105 (Or.inr ex9)
        rw [← cV_gh (F := F111) (a := n9) (j := 103) (z := 1) (Or.inr ⟨by decide, by rw [ho95.2]; decide⟩)]
        obtain ⟨F114, eF114⟩ : ∃ q, q = uF F111 (n9) (103 : Int) (1) := ⟨_, rfl⟩
        rw [← eF114]
        have hC115 : HC 0 m60 tg60 ln60 F114 := by rw [eF114]; exact HC_gh hC112 (by rw [ho95.2]; decide) (by decide)
        have hM116 : Fq 0 [(7, 15), (9, 2), (9, 3), (10, 0), (10, 1), (10, 2), (10, 8), (10, 9), (11, 8), (11, 12), (11, 13), (11, 14), (11, 15), (11, 16), (11, 17), (11, 18)] m tg F F114 := by rw [eF114]; exact Fq_x hM113 (Or.inr ex9)
        have c117 : NP m60 tg60 F114 := by rw [eF114, eF111]; exact NP_seal hC104 c107 ho95.1 ho95.2 w106 (by omega)
        refine jx_ld (pc_q := 111) (l_q := L31) (st_q := [rv (n9)]) rfl (jl_rv g37) ?_
        refine jx_rt (v := some (rv (n9))) rfl rfl rfl rfl rfl jr_are ?_
        have q118 : F114 (sc) (7 : Int) = F (sc) (7 : Int) := ((show F114 (sc) (7 : Int) = F111 (sc) (7 : Int) from by rw [eF114]; exact uF_j (by decide)).trans ((show F111 (sc) (7 : Int) = F103 (sc) (7 : Int) from by rw [eF111]; exact uF_j (by decide)).trans ((show F103 (sc) (7 : Int) = F61 (sc) (7 : Int) from by rw [eF103]; exact uF_j (by decide)).trans ((show F61 (sc) (7 : Int) = F38 (sc) (7 : Int) from hM64 _ _ ho18.1 (fun w => by have q1 := ho18.2; rw [w, ho9.2] at q1; exact absurd q1 (by decide)) (by rw [ho18.2]; rfl)).trans q46))))
        have q119 : F114 (sc) (8 : Int) = F61 (sc) (8 : Int) := ((show F114 (sc) (8 : Int) = F111 (sc) (8 : Int) from by rw [eF114]; exact uF_j (by decide)).trans ((show F111 (sc) (8 : Int) = F103 (sc) (8 : Int) from by rw [eF111]; exact uF_j (by decide)).trans (show F103 (sc) (8 : Int) = F61 (sc) (8 : Int) from by rw [eF103]; exact uF_j (by decide))))
        have q120 : F114 (pg) (9 : Int) = F61 (pg) (9 : Int) := ((show F114 (pg) (9 : Int) = F111 (pg) (9 : Int) from by rw [eF114]; exact uF_j (by decide)).trans ((show F111 (pg) (9 : Int) = F103 (pg) (9 : Int) from by rw [eF111]; exact uF_j (by decide)).trans (show F103 (pg) (9 : Int) = F61 (pg) (9 : Int) from by rw [eF103]; exact uF_j (by decide))))
        have q121 : F114 (me) (2 : Int) = F (me) (2 : Int) := ((show F114 (me) (2 : Int) = F111 (me) (2 : Int) from by rw [eF114]; exact uF_j (by decide)).trans ((show F111 (me) (2 : Int) = F103 (me) (2 : Int) from by rw [eF111]; exact uF_j (by decide)).trans (show F103 (me) (2 : Int) = F (me) (2 : Int) from by rw [eF103]; exact uF_e)))
        have q122 : F114 (sc) (8 : Int) = F61 (sc) (8 : Int) := q119
        have q123 : F114 (sc) (15 : Int) = F61 (sc) (15 : Int) := ((show F114 (sc) (15 : Int) = F111 (sc) (15 : Int) from by rw [eF114]; exact uF_j (by decide)).trans ((show F111 (sc) (15 : Int) = F103 (sc) (15 : Int) from by rw [eF111]; exact uF_j (by decide)).trans (show F103 (sc) (15 : Int) = F61 (sc) (15 : Int) from by rw [eF103]; exact uF_j (by decide))))
        have q124 : tz (F114 (sc) (15 : Int)) = tz (F61 (sc) (15 : Int)) := by rw [q123]
        have q125 := tz_b (F61 (sc) (15 : Int))
        have q126 : F114 (sc) (14 : Int) = F61 (sc) (14 : Int) := ((show F114 (sc) (14 : Int) = F111 (sc) (14 : Int) from by rw [eF114]; exact uF_j (by decide)).trans ((show F111 (sc) (14 : Int) = F103 (sc) (14 : Int) from by rw [eF111]; exact uF_j (by decide)).trans (show F103 (sc) (14 : Int) = F61 (sc) (14 : Int) from by rw [eF103]; exact uF_j (by decide))))
        have q127 : lz (F114 (sc) (14 : Int)) = lz (F61 (sc) (14 : Int)) := by rw [q126]
        have q128 := lz_b (F61 (sc) (14 : Int))
        have q129 : F114 (pg) (9 : Int) = F61 (pg) (9 : Int) := q120
        have q130 : F114 (n9) (103 : Int) = 1 := (show F114 (n9) (103 : Int) = 1 from by rw [eF114]; exact uF_e)
        have q131 : F114 (n9) (100 : Int) = 60 - 2 * lv := ((show F114 (n9) (100 : Int) = F111 (n9) (100 : Int) from by rw [eF114]; exact uF_j (by decide)).trans (show F111 (n9) (100 : Int) = 60 - 2 * lv from by rw [eF111]; exact uF_e))
        have q132 : F114 (n9) (101 : Int) = F61 (n9) (101 : Int) := ((show F114 (n9) (101 : Int) = F111 (n9) (101 : Int) from by rw [eF114]; exact uF_j (by decide)).trans ((show F111 (n9) (101 : Int) = F103 (n9) (101 : Int) from by rw [eF111]; exact uF_j (by decide)).trans (show F103 (n9) (101 : Int) = F61 (n9) (101 : Int) from by rw [eF103]; exact uF_j (by decide))))
        have q133 : F114 (n9) (8 : Int) = F61 (n9) (8 : Int) := ((show F114 (n9) (8 : Int) = F111 (n9) (8 : Int) from by rw [eF114]; exact uF_j (by decide)).trans ((show F111 (n9) (8 : Int) = F103 (n9) (8 : Int) from by rw [eF111]; exact uF_j (by decide)).trans (show F103 (n9) (8 : Int) = F61 (n9) (8 : Int) from by rw [eF103]; exact uF_j (by decide))))
        have q134 : F114 (me) (2 : Int) = F (me) (2 : Int) := q121
        exact Or.inl ⟨m60, tg60, ln60, F114, (n9), rfl, rfl, hX98, hC115, hM116, ⟨ho95.1, ho95.2⟩, by omega, by omega, by omega, by omega, by omega, by omega, by omega, by omega, by omega, by omega, by omega, by omega, c117, c102, trivial⟩
      · have _q := h8
        refine jx_ld (pc_q := 27) (l_q := L) (st_q := [rv (me)]) rfl (jl_rvn gL_0) ?_
        have q135 := tz_b (Fx (sc) (15 : Int))
        refine cx_vi (c := 8) (a := me) (st := []) (as := []) rfl rfl rfl ho2.1 ho2.2 (by decide) rfl ⟨rfl, rfl, (Nat.le_of_ble_eq_true rfl)⟩ rfl (k_LParser_startsDeclaration (dd := d) (R := R) (m := mx) (tg := tgx) (ln := lnx) (F := Fx) (me := me) (hd := by omega) (hC := hCx) (o_me := ho2.1) (t_me := ho2.2) (sc := sc) (pg := pg) (o_sc := ho3.1) (t_sc := ho3.2) (e_sc := ((show Fx (me) (1 : Int) = F (me) (1 : Int) from hMx _ _ o_me (own_z o_me) (by rw [t_me]; rfl)).trans e_sc)) (o_pg := ho4.1) (t_pg := ho4.2) (e_pg := ((show Fx (me) (0 : Int) = F (me) (0 : Int) from hMx _ _ o_me (own_z o_me) (by rw [t_me]; rfl)).trans e_pg)) (c_NP := cx_NP)) (fun o V_q hq => ?_)
        obtain ⟨r136, rfl, rfl, b137, p138, c139, c140, -⟩ := hq
        refine Or.inr (Or.inl ⟨_, rfl, ?_⟩)
        refine jx_if_eq (pc_q := 33) (tg := 74) rfl rfl rfl (by omega) (by omega) (fun h141 => ?_) (fun h141 => ?_)
        · have _q := h141
          refine cx_newp (pc_q := 77) (c := 7) rfl rfl (by decide) rfl rfl hCx rfl (by decide) (fun n142 m142 tg142 ln142 F142 en142 em142 ho142 hx142 hC142 hf142 h0142 hs142 => ?_)
          have ex142 : 64 + (m : Int) ≤ n142 := by have := hXx.1; omega
          have lm143 := hx142.1
          have lt144 : F (me) (2 : Int) < 64 + (mx : Int) := by rcases y6 with w | w; (· omega); exact w.1.2.1
          have lt145 : nm < 64 + (mx : Int) := by rcases yx_nm with w | w; (· omega); exact w.1.2.1
          have lt146 : la < 64 + (mx : Int) := by rcases yx_la with w | w; (· omega); exact w.1.2.1
          have ho147 : own m142 (me) ∧ tg142 (me) = 9 := Ex_o hx142 ⟨ho2.1, ho2.2⟩
          have y148 : F (me) (2 : Int) = 0 ∨ (own m142 (F (me) (2 : Int)) ∧ tg142 (F (me) (2 : Int)) = 7) := Ex_z hx142 y6
          have y149 : nm = 0 ∨ (own m142 (nm) ∧ tg142 (nm) = 7) := Ex_z hx142 yx_nm
          have y150 : la = 0 ∨ (own m142 (la) ∧ tg142 (la) = 7) := Ex_z hx142 yx_la
          have ho151 : own m142 (sc) ∧ tg142 (sc) = 11 := Ex_o hx142 ⟨ho3.1, ho3.2⟩
          have ho152 : own m142 (pg) ∧ tg142 (pg) = 10 := Ex_o hx142 ⟨ho4.1, ho4.2⟩
          have hX153 := Ex_t hXx hx142
          have hM154 : Fq 0 [(7, 15), (9, 2), (9, 3), (10, 0), (10, 1), (10, 2), (10, 8), (10, 9), (11, 8), (11, 12), (11, 13), (11, 14), (11, 15), (11, 16), (11, 17), (11, 18)] m tg F F142 := Fq_n hMx hf142 ex142
          have c155 : NM m m142 tg142 := NM_n cx_NM hCx.1 hx142 en142 em142 ho142.2 (by decide)
          refine jx_ar (pc_q := 78) (st_q := [rv (n142), rv (n142)]) rfl rfl ja_dup rfl ?_
          refine jx_ar (pc_q := 79) (st_q := [.int (i32 (0)), rv (n142), rv (n142)]) rfl rfl rfl rfl ?_
          refine jx_ld (pc_q := 80) (l_q := L) (st_q := [rv (me), .int (i32 (0)), rv (n142), rv (n142)]) rfl (jl_rvn gL_0) ?_
          refine cx_gr (pc_q := 83) (c := 8) (q := 1) (v := sc) rfl rfl (by decide) (by decide) rfl rfl ho147.1 ho147.2 (((show F142 (me) (1 : Int) = Fx (me) (1 : Int) from hf142 _ _ (ne_n ho2.1 en142)).trans (show Fx (me) (1 : Int) = F (me) (1 : Int) from hMx _ _ o_me (own_z o_me) (by rw [t_me]; rfl))).trans e_sc) ?_
          refine cx_gi (pc_q := 86) (c := 10) (q := 13) (v := Fx (sc) (13 : Int)) rfl rfl (by decide) (by decide) (Or.inl rfl) rfl ho151.1 ho151.2 (show F142 (sc) (13 : Int) = Fx (sc) (13 : Int) from hf142 _ _ (ne_n ho3.1 en142)) ?_
          have b156 : (-2147483648 : Int) ≤ Fx (sc) (13 : Int) ∧ Fx (sc) (13 : Int) ≤ 2147483647 := by have z := HC_i (c := 10) (q := 13) hC142 ho151.1 ho151.2 (by decide) rfl; rw [show F142 (sc) ((13 : Nat) : Int) = Fx (sc) (13 : Int) from (show F142 (sc) (13 : Int) = Fx (sc) (13 : Int) from hf142 _ _ (ne_n ho3.1 en142))] at z; exact z
          refine cx_sp (kd := 2) (a := n142) (st := [rv (n142)]) (as := [.int (i32 (0)), .int (i32 (Fx (sc) (13 : Int)))]) rfl rfl (by decide) rfl ho142.1.1 ⟨rfl, (by rw [jS_r, jS_0]; exact Nat.le_of_ble_eq_true rfl)⟩ rfl (k_LNode_init (dd := d) (R := R) (m := m142) (tg := tg142) (ln := ln142) (F := F142) (me := n142) (kd := 0) (l := Fx (sc) (13 : Int)) (hd := by omega) (hC := hC142) (o_me := ho142.1) (t_me := ho142.2) (h_kd := by omega) (h_l := by omega) (z_me := h0142)) (fun o V_q hq => ?_)
          obtain ⟨F157, rfl, rfl, hC158, hM159, p160, zp161, -⟩ := hq
          have hM162 : Fq 0 [(7, 15), (9, 2), (9, 3), (10, 0), (10, 1), (10, 2), (10, 8), (10, 9), (11, 8), (11, 12), (11, 13), (11, 14), (11, 15), (11, 16), (11, 17), (11, 18)] m tg F F157 := Fq_t (ln := ln) (ln1 := ln142) hM154 hX153 hM159 (by decide) (Or.inr (Or.inr ex142))
          have c163 : NP m142 tg142 F157 := NP_nn hCx c139 hx142 en142 em142 (fun b i ob => (hM159 b i (own_m ob hx142.1) (ne_n ob en142) rfl).trans (hf142 b i (ne_n ob en142))) (fun _ => (zp161 _ (by decide) (by decide))) (fun w => absurd (ho142.2.symm.trans w) (by decide)) (fun w => absurd (ho142.2.symm.trans w) (by decide))
          refine Or.inl ⟨rfl, ?_⟩
          refine jx_ld (pc_q := 91) (l_q := jSto1 L 5 (rv (n142))) (st_q := []) rfl (js_rv (by decide)) ?_
          obtain ⟨L164, eL164⟩ : ∃ q : jL, q = jSto1 L 5 (rv (n142)) := ⟨_, rfl⟩
          rw [← eL164]
          have g165 : jGet L164 0 = some (rv (me)) := eL164 ▸ jg_nr (by decide) gL_0
          have g166 : jGet L164 1 = some (.int (i32 (lv))) := eL164 ▸ jg_ne (by decide) gL_1 rfl
          have g167 : jGet L164 2 = some (rv (F (me) (2 : Int))) := eL164 ▸ jg_nr (by decide) gL_2
          have g168 : jGet L164 3 = some (rv (nm)) := eL164 ▸ jg_nr (by decide) gL_3
          have g169 : jGet L164 4 = some (rv (la)) := eL164 ▸ jg_nr (by decide) gL_4
          have g170 : jGet L164 5 = some (rv (n142)) := eL164 ▸ jg_eq
          clear eL164
          refine jx_ld (pc_q := 93) (l_q := L164) (st_q := [rv (n142)]) rfl (jl_rv g170) ?_
          refine jx_ld (pc_q := 94) (l_q := L164) (st_q := [rv (nm), rv (n142)]) rfl (jl_rvn g168) ?_
          refine cx_po (pc_q := 97) (c := 7) (q := 9) (qi := (9 : Int)) (z := nm) rfl rfl (by decide) (by decide) rfl rfl rfl (by decide) rfl ho142.1 ho142.2 rfl ?_
          obtain ⟨F171, eF171⟩ : ∃ q, q = uF F157 (n142) (9 : Int) (nm) := ⟨_, rfl⟩
          rw [← eF171]
          have hC172 : HC 0 m142 tg142 ln142 F171 := by rw [eF171]; exact HC_fr (c := 7) (q := 9) (by decide) hC158 ho142.2 (by decide) rfl y149 ⟨fun w => absurd w (by decide), fun w => absurd w (by decide)⟩
          have hM173 : Fq 0 [(7, 15), (9, 2), (9, 3), (10, 0), (10, 1), (10, 2), (10, 8), (10, 9), (11, 8), (11, 12), (11, 13), (11, 14), (11, 15), (11, 16), (11, 17), (11, 18)] m tg F F171 := by rw [eF171]; exact Fq_x hM162 (Or.inr ex142)
          have c174 : NP m142 tg142 F171 := by rw [eF171]; exact NP_un hC158 c163 ho142.1 ho142.2 (show F157 (n142) (103 : Int) = 0 from zp161 _ (by decide) (by decide)) (by decide) (Or.inl (by decide))
          refine jx_ld (pc_q := 98) (l_q := L164) (st_q := [rv (me)]) rfl (jl_rvn g165) ?_
          refine jx_ld (pc_q := 100) (l_q := L164) (st_q := [rv (n142), rv (me)]) rfl (jl_rv g170) ?_
          refine jx_ld (pc_q := 101) (l_q := L164) (st_q := [.int (i32 (lv)), rv (n142), rv (me)]) rfl (jl_iloadn g166) ?_
          have q175 : F171 (sc) (8 : Int) = Fx (sc) (8 : Int) := ((show F171 (sc) (8 : Int) = F157 (sc) (8 : Int) from by rw [eF171]; exact uF_j (by decide)).trans ((show F157 (sc) (8 : Int) = F142 (sc) (8 : Int) from hM159 _ _ ho151.1 (fun w => by have q1 := ho151.2; rw [w, ho142.2] at q1; exact absurd q1 (by decide)) (by rw [ho151.2]; rfl)).trans (show F142 (sc) (8 : Int) = Fx (sc) (8 : Int) from hf142 _ _ (ne_n ho3.1 en142))))
          have q176 : F171 (sc) (15 : Int) = Fx (sc) (15 : Int) := ((show F171 (sc) (15 : Int) = F157 (sc) (15 : Int) from by rw [eF171]; exact uF_j (by decide)).trans ((show F157 (sc) (15 : Int) = F142 (sc) (15 : Int) from hM159 _ _ ho151.1 (fun w => by have q1 := ho151.2; rw [w, ho142.2] at q1; exact absurd q1 (by decide)) (by rw [ho151.2]; rfl)).trans (show F142 (sc) (15 : Int) = Fx (sc) (15 : Int) from hf142 _ _ (ne_n ho3.1 en142))))
          have q177 : tz (F171 (sc) (15 : Int)) = tz (Fx (sc) (15 : Int)) := by rw [q176]
          have q178 := tz_b (Fx (sc) (15 : Int))
          have q179 : F171 (sc) (7 : Int) = F (sc) (7 : Int) := ((show F171 (sc) (7 : Int) = F157 (sc) (7 : Int) from by rw [eF171]; exact uF_j (by decide)).trans ((show F157 (sc) (7 : Int) = F142 (sc) (7 : Int) from hM159 _ _ ho151.1 (fun w => by have q1 := ho151.2; rw [w, ho142.2] at q1; exact absurd q1 (by decide)) (by rw [ho151.2]; rfl)).trans ((show F142 (sc) (7 : Int) = Fx (sc) (7 : Int) from hf142 _ _ (ne_n ho3.1 en142)).trans (show Fx (sc) (7 : Int) = F (sc) (7 : Int) from hMx _ _ o_sc (own_z o_sc) (by rw [t_sc]; rfl)))))
          have q180 : F171 (sc) (14 : Int) = Fx (sc) (14 : Int) := ((show F171 (sc) (14 : Int) = F157 (sc) (14 : Int) from by rw [eF171]; exact uF_j (by decide)).trans ((show F157 (sc) (14 : Int) = F142 (sc) (14 : Int) from hM159 _ _ ho151.1 (fun w => by have q1 := ho151.2; rw [w, ho142.2] at q1; exact absurd q1 (by decide)) (by rw [ho151.2]; rfl)).trans (show F142 (sc) (14 : Int) = Fx (sc) (14 : Int) from hf142 _ _ (ne_n ho3.1 en142))))
          have q181 : lz (F171 (sc) (14 : Int)) = lz (Fx (sc) (14 : Int)) := by rw [q180]
          have q182 := lz_b (Fx (sc) (14 : Int))
          have q183 : F171 (n142) (0 : Int) = F157 (n142) (0 : Int) := (show F171 (n142) (0 : Int) = F157 (n142) (0 : Int) from by rw [eF171]; exact uF_j (by decide))
          have q184 : F171 (n142) (3 : Int) = 0 := ((show F171 (n142) (3 : Int) = F157 (n142) (3 : Int) from by rw [eF171]; exact uF_j (by decide)).trans (show F157 (n142) (3 : Int) = 0 from zp161 _ (by decide) (by decide)))
          have q185 : F171 (n142) (4 : Int) = 0 := ((show F171 (n142) (4 : Int) = F157 (n142) (4 : Int) from by rw [eF171]; exact uF_j (by decide)).trans (show F157 (n142) (4 : Int) = 0 from zp161 _ (by decide) (by decide)))
          have q186 : F171 (n142) (5 : Int) = 0 := ((show F171 (n142) (5 : Int) = F157 (n142) (5 : Int) from by rw [eF171]; exact uF_j (by decide)).trans (show F157 (n142) (5 : Int) = 0 from zp161 _ (by decide) (by decide)))
          have q187 : F171 (n142) (6 : Int) = 0 := ((show F171 (n142) (6 : Int) = F157 (n142) (6 : Int) from by rw [eF171]; exact uF_j (by decide)).trans (show F157 (n142) (6 : Int) = 0 from zp161 _ (by decide) (by decide)))
          have q188 : F171 (n142) (7 : Int) = 0 := ((show F171 (n142) (7 : Int) = F157 (n142) (7 : Int) from by rw [eF171]; exact uF_j (by decide)).trans (show F157 (n142) (7 : Int) = 0 from zp161 _ (by decide) (by decide)))
          have q189 : F171 (n142) (8 : Int) = 0 := ((show F171 (n142) (8 : Int) = F157 (n142) (8 : Int) from by rw [eF171]; exact uF_j (by decide)).trans (show F157 (n142) (8 : Int) = 0 from zp161 _ (by decide) (by decide)))
          have q190 : F171 (n142) (101 : Int) = 0 := ((show F171 (n142) (101 : Int) = F157 (n142) (101 : Int) from by rw [eF171]; exact uF_j (by decide)).trans (show F157 (n142) (101 : Int) = 0 from zp161 _ (by decide) (by decide)))
          have q191 : F171 (n142) (103 : Int) = 0 := ((show F171 (n142) (103 : Int) = F157 (n142) (103 : Int) from by rw [eF171]; exact uF_j (by decide)).trans (show F157 (n142) (103 : Int) = 0 from zp161 _ (by decide) (by decide)))
          have q192 : F171 (pg) (9 : Int) = Fx (pg) (9 : Int) := ((show F171 (pg) (9 : Int) = F157 (pg) (9 : Int) from by rw [eF171]; exact uF_a (fun w => by have q1 := ho152.2; have q2 := ho142.2; rw [w, q2] at q1; exact absurd q1 (by decide))).trans ((show F157 (pg) (9 : Int) = F142 (pg) (9 : Int) from hM159 _ _ ho152.1 (fun w => by have q1 := ho152.2; rw [w, ho142.2] at q1; exact absurd q1 (by decide)) (by rw [ho152.2]; rfl)).trans (show F142 (pg) (9 : Int) = Fx (pg) (9 : Int) from hf142 _ _ (ne_n ho4.1 en142))))
          refine cx_vi (c := 8) (a := me) (st := []) (as := [rv (n142), .int (i32 (lv))]) rfl rfl rfl ho147.1 ho147.2 (by decide) rfl ⟨rfl, rfl, (Nat.le_of_ble_eq_true rfl)⟩ rfl (k_LParser_readStatement (dd := d) (R := R) (m := m142) (tg := tg142) (ln := ln142) (F := F171) (kk := kk) (hE := hE) (me := me) (p := n142) (lv := lv) (hd := by omega) (hC := hC172) (o_me := ho147.1) (t_me := ho147.2) (o_p := ho142.1) (t_p := ho142.2) (h_lv := by omega) (sc := sc) (pg := pg) (o_sc := ho151.1) (t_sc := ho151.2) (e_sc := (((show F171 (me) (1 : Int) = F157 (me) (1 : Int) from by rw [eF171]; exact uF_j (by decide)).trans ((show F157 (me) (1 : Int) = F142 (me) (1 : Int) from hM159 _ _ ho147.1 (fun w => by have q1 := ho147.2; rw [w, ho142.2] at q1; exact absurd q1 (by decide)) (by rw [ho147.2]; rfl)).trans ((show F142 (me) (1 : Int) = Fx (me) (1 : Int) from hf142 _ _ (ne_n ho2.1 en142)).trans (show Fx (me) (1 : Int) = F (me) (1 : Int) from hMx _ _ o_me (own_z o_me) (by rw [t_me]; rfl))))).trans e_sc)) (o_pg := ho152.1) (t_pg := ho152.2) (e_pg := (((show F171 (me) (0 : Int) = F157 (me) (0 : Int) from by rw [eF171]; exact uF_j (by decide)).trans ((show F157 (me) (0 : Int) = F142 (me) (0 : Int) from hM159 _ _ ho147.1 (fun w => by have q1 := ho147.2; rw [w, ho142.2] at q1; exact absurd q1 (by decide)) (by rw [ho147.2]; rfl)).trans ((show F142 (me) (0 : Int) = Fx (me) (0 : Int) from hf142 _ _ (ne_n ho2.1 en142)).trans (show Fx (me) (0 : Int) = F (me) (0 : Int) from hMx _ _ o_me (own_z o_me) (by rw [t_me]; rfl))))).trans e_pg)) (p_0 := by omega) (p_1 := by omega) (p_2 := by omega) (p_3 := by omega) (p_4 := by omega) (p_5 := by omega) (p_6 := by omega) (p_7 := by omega) (p_8 := by omega) (p_9 := by omega) (p_10 := by omega) (p_11 := by omega) (p_12 := by omega) (p_13 := by omega) (p_14 := by omega) (c_NP := c174)) (fun o V_q hq => ?_)
          obtain ⟨m193, tg193, ln193, F194, rfl, rfl, hx195, hC196, hM197, p198, p199, p200, p201, p202, p203, p204, c205, c206, -⟩ | ⟨m207, tg207, ln207, F207, x207, rfl, rfl, hx207, hC207, hM207, ho207, ht207, p208, p209, p210, p211, c212, c213, -⟩ := hq
          rotate_left
          ·
            have c214 : NM m m207 tg207 := NM_t c155 hx207 c213
            have lm215 := hx207.1
            refine Or.inr (Or.inr (Or.inr ⟨_, _, rfl, cx_exc (c := 15) ho207 ht207 (by decide), rfl, ?_⟩))
            have q216 : F171 (sc) (8 : Int) = Fx (sc) (8 : Int) := q175
            have q217 : F171 (sc) (7 : Int) = F (sc) (7 : Int) := q179
            exact Or.inr ⟨m207, tg207, ln207, F207, x207, rfl, rfl, Ex_t hX153 hx207, hC207, Fq_t (ln := ln) (ln1 := ln142) hM173 hX153 hM207 (by decide) (Or.inr (Or.inr ex142)), (And.intro ho207 ht207).1, (And.intro ho207 ht207).2, by omega, by omega, by omega, by omega, c212, c214, trivial⟩
          have hM218 : Fq 0 [(7, 15), (9, 2), (9, 3), (10, 0), (10, 1), (10, 2), (10, 8), (10, 9), (11, 8), (11, 12), (11, 13), (11, 14), (11, 15), (11, 16), (11, 17), (11, 18)] m tg F F194 := Fq_t (ln := ln) (ln1 := ln142) hM173 hX153 hM197 (by decide) (Or.inr (Or.inr ex142))
          have lm219 := hx195.1
          have lt220 : F (me) (2 : Int) < 64 + (m142 : Int) := by rcases y148 with w | w; (· omega); exact w.1.2.1
          have lt221 : nm < 64 + (m142 : Int) := by rcases y149 with w | w; (· omega); exact w.1.2.1
          have lt222 : la < 64 + (m142 : Int) := by rcases y150 with w | w; (· omega); exact w.1.2.1
          have lt223 : n142 < 64 + (m142 : Int) := ho142.1.2.1
          have ho224 : own m193 (me) ∧ tg193 (me) = 9 := Ex_o hx195 ⟨ho147.1, ho147.2⟩
          have y225 : F (me) (2 : Int) = 0 ∨ (own m193 (F (me) (2 : Int)) ∧ tg193 (F (me) (2 : Int)) = 7) := Ex_z hx195 y148
          have y226 : nm = 0 ∨ (own m193 (nm) ∧ tg193 (nm) = 7) := Ex_z hx195 y149
          have y227 : la = 0 ∨ (own m193 (la) ∧ tg193 (la) = 7) := Ex_z hx195 y150
          have ho228 : own m193 (n142) ∧ tg193 (n142) = 8 := Ex_o hx195 ⟨ho142.1, ho142.2⟩
          have ho229 : own m193 (sc) ∧ tg193 (sc) = 11 := Ex_o hx195 ⟨ho151.1, ho151.2⟩
          have ho230 : own m193 (pg) ∧ tg193 (pg) = 10 := Ex_o hx195 ⟨ho152.1, ho152.2⟩
          have hX231 := Ex_t hX153 hx195
          have q232 := p204.1
          have q233 := p204.2.1
          have q234 := p204.2.2.1
          have c235 : NM m m193 tg193 := NM_t c155 hx195 c206
          refine Or.inl ⟨rfl, ?_⟩
          refine jx_ld (pc_q := 105) (l_q := L164) (st_q := [rv (me)]) rfl (jl_rvn g165) ?_
          refine jx_ld (pc_q := 106) (l_q := L164) (st_q := [rv (F (me) (2 : Int)), rv (me)]) rfl (jl_rvn g167) ?_
          refine cx_po (pc_q := 109) (c := 8) (q := 2) (qi := (2 : Int)) (z := F (me) (2 : Int)) rfl rfl (by decide) (by decide) rfl rfl rfl (by decide) rfl ho224.1 ho224.2 rfl ?_
          obtain ⟨F236, eF236⟩ : ∃ q, q = uF F194 (me) (2 : Int) (F (me) (2 : Int)) := ⟨_, rfl⟩
          rw [← eF236]
          have hC237 : HC 0 m193 tg193 ln193 F236 := by rw [eF236]; exact HC_fr (c := 8) (q := 2) (by decide) hC196 ho224.2 (by decide) rfl y225 ⟨fun w => absurd w (by decide), fun w => absurd w (by decide)⟩
          have hM238 : Fq 0 [(7, 15), (9, 2), (9, 3), (10, 0), (10, 1), (10, 2), (10, 8), (10, 9), (11, 8), (11, 12), (11, 13), (11, 14), (11, 15), (11, 16), (11, 17), (11, 18)] m tg F F236 := by rw [eF236]; exact Fq_p hM218 ho224.2 (fun w => (hX231.2 _ w).1) rfl
          have w239 : WK F236 n142 (60 - 2 * lv) := by rw [eF236]; exact WK_u p204 hC196 ho228.1 ho228.2 ho224.2 (by omega)
          have c240 : NP m193 tg193 F236 := by rw [eF236]; exact NP_u hC196 c205 ho224.2 (by omega)
          have q241 := w239.1
          have q242 := w239.2.1
          have q243 := w239.2.2.1
          rw [← cV_gh (F := F236) (a := n142) (j := 100) (z := 60 - 2 * lv) (Or.inr ⟨by decide, by rw [ho228.2]; decide⟩)]
          obtain ⟨F244, eF244⟩ : ∃ q, q = uF F236 (n142) (100 : Int) (60 - 2 * lv) := ⟨_, rfl⟩
          rw [← eF244]
          have hC245 : HC 0 m193 tg193 ln193 F244 := by rw [eF244]; exact HC_gh hC237 (by rw [ho228.2]; decide) (by decide)
          have hM246 : Fq 0 [(7, 15), (9, 2), (9, 3), (10, 0), (10, 1), (10, 2), (10, 8), (10, 9), (11, 8), (11, 12), (11, 13), (11, 14), (11, 15), (11, 16), (11, 17), (11, 18)] m tg F F244 := by rw [eF244]; exact Fq_x hM238 (Or.inr ex142)
          rw [← cV_gh (F := F244) (a := n142) (j := 103) (z := 1) (Or.inr ⟨by decide, by rw [ho228.2]; decide⟩)]
          obtain ⟨F247, eF247⟩ : ∃ q, q = uF F244 (n142) (103 : Int) (1) := ⟨_, rfl⟩
          rw [← eF247]
          have hC248 : HC 0 m193 tg193 ln193 F247 := by rw [eF247]; exact HC_gh hC245 (by rw [ho228.2]; decide) (by decide)
          have hM249 : Fq 0 [(7, 15), (9, 2), (9, 3), (10, 0), (10, 1), (10, 2), (10, 8), (10, 9), (11, 8), (11, 12), (11, 13), (11, 14), (11, 15), (11, 16), (11, 17), (11, 18)] m tg F F247 := by rw [eF247]; exact Fq_x hM246 (Or.inr ex142)
          have c250 : NP m193 tg193 F247 := by rw [eF247, eF244]; exact NP_seal hC237 c240 ho228.1 ho228.2 w239 (by omega)
          refine jx_ld (pc_q := 111) (l_q := L164) (st_q := [rv (n142)]) rfl (jl_rv g170) ?_
          refine jx_rt (v := some (rv (n142))) rfl rfl rfl rfl rfl jr_are ?_
          have q251 : F247 (sc) (7 : Int) = F (sc) (7 : Int) := ((show F247 (sc) (7 : Int) = F244 (sc) (7 : Int) from by rw [eF247]; exact uF_j (by decide)).trans ((show F244 (sc) (7 : Int) = F236 (sc) (7 : Int) from by rw [eF244]; exact uF_j (by decide)).trans ((show F236 (sc) (7 : Int) = F194 (sc) (7 : Int) from by rw [eF236]; exact uF_j (by decide)).trans ((show F194 (sc) (7 : Int) = F171 (sc) (7 : Int) from hM197 _ _ ho151.1 (fun w => by have q1 := ho151.2; rw [w, ho142.2] at q1; exact absurd q1 (by decide)) (by rw [ho151.2]; rfl)).trans q179))))
          have q252 : F247 (sc) (8 : Int) = F194 (sc) (8 : Int) := ((show F247 (sc) (8 : Int) = F244 (sc) (8 : Int) from by rw [eF247]; exact uF_j (by decide)).trans ((show F244 (sc) (8 : Int) = F236 (sc) (8 : Int) from by rw [eF244]; exact uF_j (by decide)).trans (show F236 (sc) (8 : Int) = F194 (sc) (8 : Int) from by rw [eF236]; exact uF_j (by decide))))
          have q253 : F247 (pg) (9 : Int) = F194 (pg) (9 : Int) := ((show F247 (pg) (9 : Int) = F244 (pg) (9 : Int) from by rw [eF247]; exact uF_j (by decide)).trans ((show F244 (pg) (9 : Int) = F236 (pg) (9 : Int) from by rw [eF244]; exact uF_j (by decide)).trans (show F236 (pg) (9 : Int) = F194 (pg) (9 : Int) from by rw [eF236]; exact uF_j (by decide))))
          have q254 : F247 (me) (2 : Int) = F (me) (2 : Int) := ((show F247 (me) (2 : Int) = F244 (me) (2 : Int) from by rw [eF247]; exact uF_j (by decide)).trans ((show F244 (me) (2 : Int) = F236 (me) (2 : Int) from by rw [eF244]; exact uF_j (by decide)).trans (show F236 (me) (2 : Int) = F (me) (2 : Int) from by rw [eF236]; exact uF_e)))
          have q255 : F247 (sc) (8 : Int) = F194 (sc) (8 : Int) := q252
          have q256 : F247 (sc) (15 : Int) = F194 (sc) (15 : Int) := ((show F247 (sc) (15 : Int) = F244 (sc) (15 : Int) from by rw [eF247]; exact uF_j (by decide)).trans ((show F244 (sc) (15 : Int) = F236 (sc) (15 : Int) from by rw [eF244]; exact uF_j (by decide)).trans (show F236 (sc) (15 : Int) = F194 (sc) (15 : Int) from by rw [eF236]; exact uF_j (by decide))))
          have q257 : tz (F247 (sc) (15 : Int)) = tz (F194 (sc) (15 : Int)) := by rw [q256]
          have q258 := tz_b (F194 (sc) (15 : Int))
          have q259 : F247 (sc) (14 : Int) = F194 (sc) (14 : Int) := ((show F247 (sc) (14 : Int) = F244 (sc) (14 : Int) from by rw [eF247]; exact uF_j (by decide)).trans ((show F244 (sc) (14 : Int) = F236 (sc) (14 : Int) from by rw [eF244]; exact uF_j (by decide)).trans (show F236 (sc) (14 : Int) = F194 (sc) (14 : Int) from by rw [eF236]; exact uF_j (by decide))))
          have q260 : lz (F247 (sc) (14 : Int)) = lz (F194 (sc) (14 : Int)) := by rw [q259]
          have q261 := lz_b (F194 (sc) (14 : Int))
          have q262 : F247 (pg) (9 : Int) = F194 (pg) (9 : Int) := q253
          have q263 : F247 (n142) (103 : Int) = 1 := (show F247 (n142) (103 : Int) = 1 from by rw [eF247]; exact uF_e)
          have q264 : F247 (n142) (100 : Int) = 60 - 2 * lv := ((show F247 (n142) (100 : Int) = F244 (n142) (100 : Int) from by rw [eF247]; exact uF_j (by decide)).trans (show F244 (n142) (100 : Int) = 60 - 2 * lv from by rw [eF244]; exact uF_e))
          have q265 : F247 (n142) (101 : Int) = F194 (n142) (101 : Int) := ((show F247 (n142) (101 : Int) = F244 (n142) (101 : Int) from by rw [eF247]; exact uF_j (by decide)).trans ((show F244 (n142) (101 : Int) = F236 (n142) (101 : Int) from by rw [eF244]; exact uF_j (by decide)).trans (show F236 (n142) (101 : Int) = F194 (n142) (101 : Int) from by rw [eF236]; exact uF_j (by decide))))
          have q266 : F247 (n142) (8 : Int) = F194 (n142) (8 : Int) := ((show F247 (n142) (8 : Int) = F244 (n142) (8 : Int) from by rw [eF247]; exact uF_j (by decide)).trans ((show F244 (n142) (8 : Int) = F236 (n142) (8 : Int) from by rw [eF244]; exact uF_j (by decide)).trans (show F236 (n142) (8 : Int) = F194 (n142) (8 : Int) from by rw [eF236]; exact uF_j (by decide))))
          have q267 : F247 (me) (2 : Int) = F (me) (2 : Int) := q254
          exact Or.inl ⟨m193, tg193, ln193, F247, (n142), rfl, rfl, hX231, hC248, hM249, ⟨ho228.1, ho228.2⟩, by omega, by omega, by omega, by omega, by omega, by omega, by omega, by omega, by omega, by omega, by omega, by omega, c250, c235, trivial⟩
        · have _q := h141
          refine jx_ld (pc_q := 34) (l_q := L) (st_q := [rv (me)]) rfl (jl_rvn gL_0) ?_
          have q268 := tz_b (Fx (sc) (15 : Int))
          have q269 : Fx (sc) (7 : Int) = F (sc) (7 : Int) := (show Fx (sc) (7 : Int) = F (sc) (7 : Int) from hMx _ _ o_sc (own_z o_sc) (by rw [t_sc]; rfl))
          have q270 := lz_b (Fx (sc) (14 : Int))
          refine cx_vi (c := 8) (a := me) (st := []) (as := []) rfl rfl rfl ho2.1 ho2.2 (by decide) rfl ⟨rfl, rfl, (Nat.le_of_ble_eq_true rfl)⟩ rfl (k_LParser_readDeclaration (dd := d) (R := R) (m := mx) (tg := tgx) (ln := lnx) (F := Fx) (me := me) (hd := by omega) (hC := hCx) (o_me := ho2.1) (t_me := ho2.2) (sc := sc) (pg := pg) (o_sc := ho3.1) (t_sc := ho3.2) (e_sc := ((show Fx (me) (1 : Int) = F (me) (1 : Int) from hMx _ _ o_me (own_z o_me) (by rw [t_me]; rfl)).trans e_sc)) (o_pg := ho4.1) (t_pg := ho4.2) (e_pg := ((show Fx (me) (0 : Int) = F (me) (0 : Int) from hMx _ _ o_me (own_z o_me) (by rw [t_me]; rfl)).trans e_pg)) (p_0 := by omega) (p_1 := by omega) (p_2 := by omega) (c_NP := c139)) (fun o V_q hq => ?_)
          obtain ⟨m271, tg271, ln271, F272, r273, rfl, rfl, hx274, hC275, hM276, b277, p278, p279, p280, p281, p282, p283, p284, p285, p286, c287, c288, -⟩ | ⟨m289, tg289, ln289, F289, x289, rfl, rfl, hx289, hC289, hM289, ho289, ht289, p290, p291, p292, p293, c294, c295, -⟩ := hq
          rotate_left
          ·
            have c296 : NM m m289 tg289 := NM_t cx_NM hx289 c295
            have lm297 := hx289.1
            refine Or.inr (Or.inr (Or.inr ⟨_, _, rfl, cx_exc (c := 15) ho289 ht289 (by decide), rfl, ?_⟩))
            have q298 : Fx (sc) (7 : Int) = F (sc) (7 : Int) := (show Fx (sc) (7 : Int) = F (sc) (7 : Int) from hMx _ _ o_sc (own_z o_sc) (by rw [t_sc]; rfl))
            exact Or.inr ⟨m289, tg289, ln289, F289, x289, rfl, rfl, Ex_t hXx hx289, hC289, Fq_t (ln := ln) (ln1 := lnx) hMx hXx hM289 (by decide) (Or.inl rfl), (And.intro ho289 ht289).1, (And.intro ho289 ht289).2, by omega, by omega, by omega, by omega, c294, c296, trivial⟩
          have hM299 : Fq 0 [(7, 15), (9, 2), (9, 3), (10, 0), (10, 1), (10, 2), (10, 8), (10, 9), (11, 8), (11, 12), (11, 13), (11, 14), (11, 15), (11, 16), (11, 17), (11, 18)] m tg F F272 := Fq_t (ln := ln) (ln1 := lnx) hMx hXx hM276 (by decide) (Or.inl rfl)
          have lm300 := hx274.1
          have lt301 : F (me) (2 : Int) < 64 + (mx : Int) := by rcases y6 with w | w; (· omega); exact w.1.2.1
          have lt302 : nm < 64 + (mx : Int) := by rcases yx_nm with w | w; (· omega); exact w.1.2.1
          have lt303 : la < 64 + (mx : Int) := by rcases yx_la with w | w; (· omega); exact w.1.2.1
          have ho304 : own m271 (me) ∧ tg271 (me) = 9 := Ex_o hx274 ⟨ho2.1, ho2.2⟩
          have y305 : F (me) (2 : Int) = 0 ∨ (own m271 (F (me) (2 : Int)) ∧ tg271 (F (me) (2 : Int)) = 7) := Ex_z hx274 y6
          have y306 : nm = 0 ∨ (own m271 (nm) ∧ tg271 (nm) = 7) := Ex_z hx274 yx_nm
          have y307 : la = 0 ∨ (own m271 (la) ∧ tg271 (la) = 7) := Ex_z hx274 yx_la
          have ho308 : own m271 (sc) ∧ tg271 (sc) = 11 := Ex_o hx274 ⟨ho3.1, ho3.2⟩
          have ho309 : own m271 (pg) ∧ tg271 (pg) = 10 := Ex_o hx274 ⟨ho4.1, ho4.2⟩
          have hX310 := Ex_t hXx hx274
          have c311 : NM m m271 tg271 := NM_t cx_NM hx274 c288
          refine Or.inr (Or.inl ⟨_, rfl, ?_⟩)
          refine jx_ld (pc_q := 39) (l_q := jSto1 L 6 (rv (r273))) (st_q := []) rfl (js_rv (by decide)) ?_
          obtain ⟨L312, eL312⟩ : ∃ q : jL, q = jSto1 L 6 (rv (r273)) := ⟨_, rfl⟩
          rw [← eL312]
          have g313 : jGet L312 0 = some (rv (me)) := eL312 ▸ jg_nr (by decide) gL_0
          have g314 : jGet L312 1 = some (.int (i32 (lv))) := eL312 ▸ jg_ne (by decide) gL_1 rfl
          have g315 : jGet L312 2 = some (rv (F (me) (2 : Int))) := eL312 ▸ jg_nr (by decide) gL_2
          have g316 : jGet L312 5 = some (.int (i32 (k))) := eL312 ▸ jg_ne (by decide) gL_5 rfl
          have g317 : jGet L312 3 = some (rv (nm)) := eL312 ▸ jg_nr (by decide) gL_3
          have g318 : jGet L312 4 = some (rv (la)) := eL312 ▸ jg_nr (by decide) gL_4
          have g319 : jGet L312 6 = some (rv (r273)) := eL312 ▸ jg_eq
          clear eL312
          refine jx_ld (pc_q := 41) (l_q := L312) (st_q := [rv (la)]) rfl (jl_rv g318) ?_
          refine cx_non (pc_q := 44) (tg_q := 50) rfl rfl rfl (fun h320 => ?_) (fun h320 => ?_)
          · have _q := h320
            have ho321 : own m271 (la) ∧ tg271 (la) = 7 := y307.resolve_left h320
            refine jx_ld (pc_q := 52) (l_q := L312) (st_q := [rv (la)]) rfl (jl_rv g318) ?_
            refine jx_ld (pc_q := 54) (l_q := L312) (st_q := [rv (r273), rv (la)]) rfl (jl_rv g319) ?_
            refine cx_po (pc_q := 57) (c := 6) (q := 14) (qi := (14 : Int)) (z := r273) rfl rfl (by decide) (by decide) rfl rfl rfl (by decide) rfl ho321.1 ho321.2 rfl ?_
            obtain ⟨F322, eF322⟩ : ∃ q, q = uF F272 (la) (14 : Int) (r273) := ⟨_, rfl⟩
            rw [← eF322]
            have hC323 : HC 0 m271 tg271 ln271 F322 := by rw [eF322]; exact HC_fr (c := 6) (q := 14) (by decide) hC275 ho321.2 (by decide) rfl (Or.inr ⟨b277.1, b277.2⟩) ⟨fun w => absurd w (by decide), fun w => absurd w (by decide)⟩
            have hM324 : Fq 0 [(7, 15), (9, 2), (9, 3), (10, 0), (10, 1), (10, 2), (10, 8), (10, 9), (11, 8), (11, 12), (11, 13), (11, 14), (11, 15), (11, 16), (11, 17), (11, 18)] m tg F F322 := by rw [eF322]; exact Fq_x hM299 (Or.inr (by omega))
            have c325 : NP m271 tg271 F322 := by rw [eF322]; exact NP_nm hC275 c287 ho321.2 (Or.inl ⟨rfl, (by omega), by omega⟩)
            refine jx_ld (pc_q := 58) (l_q := L312) (st_q := [rv (me)]) rfl (jl_rvn g313) ?_
            refine cx_gr (pc_q := 61) (c := 8) (q := 2) (v := F272 (me) (2 : Int)) rfl rfl (by decide) (by decide) rfl rfl ho304.1 ho304.2 (show F322 (me) (2 : Int) = F272 (me) (2 : Int) from by rw [eF322]; exact uF_j (by decide)) ?_
            have y326 : F272 (me) (2 : Int) = 0 ∨ (own m271 (F272 (me) (2 : Int)) ∧ tg271 (F272 (me) (2 : Int)) = 7) := by have z := HC_r (c := 8) (q := 2) hC323 ho304.1 ho304.2 (by decide) rfl; rw [show F322 (me) ((2 : Nat) : Int) = F272 (me) (2 : Int) from (show F322 (me) (2 : Int) = F272 (me) (2 : Int) from by rw [eF322]; exact uF_j (by decide))] at z; exact z
            have hn327 : F272 (me) (2 : Int) ≠ 0 := by omega
            have ho328 : own m271 (F272 (me) (2 : Int)) ∧ tg271 (F272 (me) (2 : Int)) = 7 := y326.resolve_left hn327
            refine jx_ld (pc_q := 63) (l_q := jSto1 L312 4 (rv (F272 (me) (2 : Int)))) (st_q := []) rfl (js_rv (by decide)) ?_
            obtain ⟨L329, eL329⟩ : ∃ q : jL, q = jSto1 L312 4 (rv (F272 (me) (2 : Int))) := ⟨_, rfl⟩
            rw [← eL329]
            have g330 : jGet L329 0 = some (rv (me)) := eL329 ▸ jg_nr (by decide) g313
            have g331 : jGet L329 1 = some (.int (i32 (lv))) := eL329 ▸ jg_ne (by decide) g314 rfl
            have g332 : jGet L329 2 = some (rv (F (me) (2 : Int))) := eL329 ▸ jg_nr (by decide) g315
            have g333 : jGet L329 5 = some (.int (i32 (k))) := eL329 ▸ jg_ne (by decide) g316 rfl
            have g334 : jGet L329 3 = some (rv (nm)) := eL329 ▸ jg_nr (by decide) g317
            have g335 : jGet L329 6 = some (rv (r273)) := eL329 ▸ jg_nr (by decide) g319
            have g336 : jGet L329 4 = some (rv (F272 (me) (2 : Int))) := eL329 ▸ jg_eq
            clear eL329
            refine jx_ld (pc_q := 64) (l_q := L329) (st_q := [rv (me)]) rfl (jl_rvn g330) ?_
            refine jx_ld (pc_q := 65) (l_q := L329) (st_q := [.int (i32 (lv)), rv (me)]) rfl (jl_iloadn g331) ?_
            have q337 : F322 (sc) (8 : Int) = F272 (sc) (8 : Int) := (show F322 (sc) (8 : Int) = F272 (sc) (8 : Int) from by rw [eF322]; exact uF_j (by decide))
            have q338 : F322 (sc) (15 : Int) = F272 (sc) (15 : Int) := (show F322 (sc) (15 : Int) = F272 (sc) (15 : Int) from by rw [eF322]; exact uF_j (by decide))
            have q339 : tz (F322 (sc) (15 : Int)) = tz (F272 (sc) (15 : Int)) := by rw [q338]
            have q340 := tz_b (F272 (sc) (15 : Int))
            have q341 : F322 (sc) (7 : Int) = F (sc) (7 : Int) := ((show F322 (sc) (7 : Int) = F272 (sc) (7 : Int) from by rw [eF322]; exact uF_j (by decide)).trans ((show F272 (sc) (7 : Int) = Fx (sc) (7 : Int) from hM276 _ _ ho3.1 (own_z ho3.1) (by rw [ho3.2]; rfl)).trans (show Fx (sc) (7 : Int) = F (sc) (7 : Int) from hMx _ _ o_sc (own_z o_sc) (by rw [t_sc]; rfl))))
            have q342 : F322 (sc) (14 : Int) = F272 (sc) (14 : Int) := (show F322 (sc) (14 : Int) = F272 (sc) (14 : Int) from by rw [eF322]; exact uF_a (fun w => by have q1 := ho308.2; have q2 := ho321.2; rw [w, q2] at q1; exact absurd q1 (by decide)))
            have q343 : lz (F322 (sc) (14 : Int)) = lz (F272 (sc) (14 : Int)) := by rw [q342]
            have q344 := lz_b (F272 (sc) (14 : Int))
            have q345 : F322 (pg) (9 : Int) = Fx (pg) (9 : Int) := ((show F322 (pg) (9 : Int) = F272 (pg) (9 : Int) from by rw [eF322]; exact uF_j (by decide)).trans (show F272 (pg) (9 : Int) = Fx (pg) (9 : Int) from hM276 _ _ ho4.1 (own_z ho4.1) (by rw [ho4.2]; rfl)))
            refine cx_vi (c := 8) (a := me) (st := []) (as := [.int (i32 (lv))]) rfl rfl rfl ho304.1 ho304.2 (by decide) rfl ⟨rfl, rfl, (Nat.le_of_ble_eq_true rfl)⟩ rfl (k_LParser_needLevel (dd := d) (R := R) (m := m271) (tg := tg271) (ln := ln271) (F := F322) (me := me) (lv := lv) (hd := by omega) (hC := hC323) (o_me := ho304.1) (t_me := ho304.2) (h_lv := by omega) (sc := sc) (pg := pg) (o_sc := ho308.1) (t_sc := ho308.2) (e_sc := (((show F322 (me) (1 : Int) = F272 (me) (1 : Int) from by rw [eF322]; exact uF_j (by decide)).trans ((show F272 (me) (1 : Int) = Fx (me) (1 : Int) from hM276 _ _ ho2.1 (own_z ho2.1) (by rw [ho2.2]; rfl)).trans (show Fx (me) (1 : Int) = F (me) (1 : Int) from hMx _ _ o_me (own_z o_me) (by rw [t_me]; rfl)))).trans e_sc)) (o_pg := ho309.1) (t_pg := ho309.2) (e_pg := (((show F322 (me) (0 : Int) = F272 (me) (0 : Int) from by rw [eF322]; exact uF_j (by decide)).trans ((show F272 (me) (0 : Int) = Fx (me) (0 : Int) from hM276 _ _ ho2.1 (own_z ho2.1) (by rw [ho2.2]; rfl)).trans (show Fx (me) (0 : Int) = F (me) (0 : Int) from hMx _ _ o_me (own_z o_me) (by rw [t_me]; rfl)))).trans e_pg)) (p_0 := by omega) (p_1 := by omega) (p_2 := by omega) (c_NP := c325)) (fun o V_q hq => ?_)
            obtain ⟨m346, tg346, ln346, F347, rfl, rfl, hx348, hC349, hM350, p351, p352, p353, p354, p355, p356, p357, p358, p359, c360, c361, -⟩ | ⟨m362, tg362, ln362, F362, x362, rfl, rfl, hx362, hC362, hM362, ho362, ht362, p363, p364, p365, p366, c367, c368, -⟩ := hq
            rotate_left
            ·
              have c369 : NM m m362 tg362 := NM_t c311 hx362 c368
              have lm370 := hx362.1
              refine Or.inr (Or.inr (Or.inr ⟨_, _, rfl, cx_exc (c := 15) ho362 ht362 (by decide), rfl, ?_⟩))
              have q371 : F322 (sc) (8 : Int) = F272 (sc) (8 : Int) := q337
              have q372 : F322 (sc) (7 : Int) = F (sc) (7 : Int) := q341
              exact Or.inr ⟨m362, tg362, ln362, F362, x362, rfl, rfl, Ex_t hX310 hx362, hC362, Fq_t (ln := ln) (ln1 := ln271) hM324 hX310 hM362 (by decide) (Or.inl rfl), (And.intro ho362 ht362).1, (And.intro ho362 ht362).2, by omega, by omega, by omega, by omega, c367, c369, trivial⟩
            have hM373 : Fq 0 [(7, 15), (9, 2), (9, 3), (10, 0), (10, 1), (10, 2), (10, 8), (10, 9), (11, 8), (11, 12), (11, 13), (11, 14), (11, 15), (11, 16), (11, 17), (11, 18)] m tg F F347 := Fq_t (ln := ln) (ln1 := ln271) hM324 hX310 hM350 (by decide) (Or.inl rfl)
            have lm374 := hx348.1
            have lt375 : F (me) (2 : Int) < 64 + (m271 : Int) := by rcases y305 with w | w; (· omega); exact w.1.2.1
            have lt376 : nm < 64 + (m271 : Int) := by rcases y306 with w | w; (· omega); exact w.1.2.1
            have lt377 : r273 < 64 + (m271 : Int) := b277.1.2.1
            have lt378 : F272 (me) (2 : Int) < 64 + (m271 : Int) := ho328.1.2.1
            have ho379 : own m346 (me) ∧ tg346 (me) = 9 := Ex_o hx348 ⟨ho304.1, ho304.2⟩
            have y380 : F (me) (2 : Int) = 0 ∨ (own m346 (F (me) (2 : Int)) ∧ tg346 (F (me) (2 : Int)) = 7) := Ex_z hx348 y305
            have y381 : nm = 0 ∨ (own m346 (nm) ∧ tg346 (nm) = 7) := Ex_z hx348 y306
            have ho382 : own m346 (r273) ∧ tg346 (r273) = 7 := Ex_o hx348 ⟨b277.1, b277.2⟩
            have ho383 : own m346 (F272 (me) (2 : Int)) ∧ tg346 (F272 (me) (2 : Int)) = 7 := Ex_o hx348 ⟨ho328.1, ho328.2⟩
            have ho384 : own m346 (sc) ∧ tg346 (sc) = 11 := Ex_o hx348 ⟨ho308.1, ho308.2⟩
            have ho385 : own m346 (pg) ∧ tg346 (pg) = 10 := Ex_o hx348 ⟨ho309.1, ho309.2⟩
            have hX386 := Ex_t hX310 hx348
            have c387 : NM m m346 tg346 := NM_t c311 hx348 c361
            refine Or.inl ⟨rfl, ?_⟩
            refine jx_inc (pc_q := 71) (l_q := jSto1 L329 5 (.int (i32 (k + (1))))) (x := k) rfl g333 (by decide) rfl rfl ?_
            obtain ⟨L388, eL388⟩ : ∃ q : jL, q = jSto1 L329 5 (.int (i32 ((k + (1))))) := ⟨_, rfl⟩
            rw [← eL388]
            have g389 : jGet L388 0 = some (rv (me)) := eL388 ▸ jg_nr (by decide) g330
            have g390 : jGet L388 1 = some (.int (i32 (lv))) := eL388 ▸ jg_ne (by decide) g331 rfl
            have g391 : jGet L388 2 = some (rv (F (me) (2 : Int))) := eL388 ▸ jg_nr (by decide) g332
            have g392 : jGet L388 3 = some (rv (nm)) := eL388 ▸ jg_nr (by decide) g334
            have g393 : jGet L388 6 = some (rv (r273)) := eL388 ▸ jg_nr (by decide) g335
            have g394 : jGet L388 4 = some (rv (F272 (me) (2 : Int))) := eL388 ▸ jg_nr (by decide) g336
            have g395 : jGet L388 5 = some (.int (i32 ((k + (1))))) := eL388 ▸ jg_eq
            clear eL388
            refine jx_go (tg := 18) rfl rfl ?_
            have q396 : F347 (sc) (8 : Int) = F272 (sc) (8 : Int) := ((show F347 (sc) (8 : Int) = F322 (sc) (8 : Int) from hM350 _ _ ho308.1 (own_z ho308.1) (by rw [ho308.2]; rfl)).trans q337)
            have q397 : F347 (sc) (15 : Int) = F272 (sc) (15 : Int) := ((show F347 (sc) (15 : Int) = F322 (sc) (15 : Int) from hM350 _ _ ho308.1 (own_z ho308.1) (by rw [ho308.2]; rfl)).trans q338)
            have q398 : tz (F347 (sc) (15 : Int)) = tz (F272 (sc) (15 : Int)) := by rw [q397]
            have q399 := tz_b (F272 (sc) (15 : Int))
            have q400 : F347 (sc) (14 : Int) = F272 (sc) (14 : Int) := ((show F347 (sc) (14 : Int) = F322 (sc) (14 : Int) from hM350 _ _ ho308.1 (own_z ho308.1) (by rw [ho308.2]; rfl)).trans q342)
            have q401 : lz (F347 (sc) (14 : Int)) = lz (F272 (sc) (14 : Int)) := by rw [q400]
            have q402 := lz_b (F272 (sc) (14 : Int))
            have q403 : F347 (pg) (9 : Int) = Fx (pg) (9 : Int) := ((show F347 (pg) (9 : Int) = F322 (pg) (9 : Int) from hM350 _ _ ho309.1 (own_z ho309.1) (by rw [ho309.2]; rfl)).trans q345)
            have q404 : F347 (F272 (me) (2 : Int)) (14 : Int) = F272 (F272 (me) (2 : Int)) (14 : Int) := ((show F347 (F272 (me) (2 : Int)) (14 : Int) = F322 (F272 (me) (2 : Int)) (14 : Int) from hM350 _ _ ho328.1 (own_z ho328.1) (by rw [ho328.2]; rfl)).trans (show F322 (F272 (me) (2 : Int)) (14 : Int) = F272 (F272 (me) (2 : Int)) (14 : Int) from by rw [eF322]; exact uF_a (by omega)))
            exact ih _ (by omega) L388 m346 tg346 ln346 F347 ((k + (1))) (nm) (F272 (me) (2 : Int)) rfl g389 g390 g391 g395 g392 g394 hX386 hC349 hM373 (by omega) y381 (Or.inr ⟨ho383.1, ho383.2⟩) (by omega) (by omega) (by omega) (by omega) (by omega) (by omega) (by omega) (by omega) (by omega) (by omega) (by omega) (by omega) c360 c387
          · have _q := h320
            refine jx_ld (pc_q := 46) (l_q := L312) (st_q := [rv (r273)]) rfl (jl_rv g319) ?_
            refine jx_ld (pc_q := 47) (l_q := jSto1 L312 3 (rv (r273))) (st_q := []) rfl (js_rvn (by decide)) ?_
            obtain ⟨L405, eL405⟩ : ∃ q : jL, q = jSto1 L312 3 (rv (r273)) := ⟨_, rfl⟩
            rw [← eL405]
            have g406 : jGet L405 0 = some (rv (me)) := eL405 ▸ jg_nr (by decide) g313
            have g407 : jGet L405 1 = some (.int (i32 (lv))) := eL405 ▸ jg_ne (by decide) g314 rfl
            have g408 : jGet L405 2 = some (rv (F (me) (2 : Int))) := eL405 ▸ jg_nr (by decide) g315
            have g409 : jGet L405 5 = some (.int (i32 (k))) := eL405 ▸ jg_ne (by decide) g316 rfl
            have g410 : jGet L405 4 = some (rv (la)) := eL405 ▸ jg_nr (by decide) g318
            have g411 : jGet L405 6 = some (rv (r273)) := eL405 ▸ jg_nr (by decide) g319
            have g412 : jGet L405 3 = some (rv (r273)) := eL405 ▸ jg_eq
            clear eL405
            refine jx_go (tg := 57) rfl rfl ?_
            refine jx_ld (pc_q := 58) (l_q := L405) (st_q := [rv (me)]) rfl (jl_rvn g406) ?_
            refine cx_gr (pc_q := 61) (c := 8) (q := 2) (v := F272 (me) (2 : Int)) rfl rfl (by decide) (by decide) rfl rfl ho304.1 ho304.2 rfl ?_
            have y413 : F272 (me) (2 : Int) = 0 ∨ (own m271 (F272 (me) (2 : Int)) ∧ tg271 (F272 (me) (2 : Int)) = 7) := by have z := HC_r (c := 8) (q := 2) hC275 ho304.1 ho304.2 (by decide) rfl; rw [show F272 (me) ((2 : Nat) : Int) = F272 (me) (2 : Int) from rfl] at z; exact z
            have hn414 : F272 (me) (2 : Int) ≠ 0 := by omega
            have ho415 : own m271 (F272 (me) (2 : Int)) ∧ tg271 (F272 (me) (2 : Int)) = 7 := y413.resolve_left hn414
            refine jx_ld (pc_q := 63) (l_q := jSto1 L405 4 (rv (F272 (me) (2 : Int)))) (st_q := []) rfl (js_rv (by decide)) ?_
            obtain ⟨L416, eL416⟩ : ∃ q : jL, q = jSto1 L405 4 (rv (F272 (me) (2 : Int))) := ⟨_, rfl⟩
            rw [← eL416]
            have g417 : jGet L416 0 = some (rv (me)) := eL416 ▸ jg_nr (by decide) g406
            have g418 : jGet L416 1 = some (.int (i32 (lv))) := eL416 ▸ jg_ne (by decide) g407 rfl
            have g419 : jGet L416 2 = some (rv (F (me) (2 : Int))) := eL416 ▸ jg_nr (by decide) g408
            have g420 : jGet L416 5 = some (.int (i32 (k))) := eL416 ▸ jg_ne (by decide) g409 rfl
            have g421 : jGet L416 6 = some (rv (r273)) := eL416 ▸ jg_nr (by decide) g411
            have g422 : jGet L416 3 = some (rv (r273)) := eL416 ▸ jg_nr (by decide) g412
            have g423 : jGet L416 4 = some (rv (F272 (me) (2 : Int))) := eL416 ▸ jg_eq
            clear eL416
            refine jx_ld (pc_q := 64) (l_q := L416) (st_q := [rv (me)]) rfl (jl_rvn g417) ?_
            refine jx_ld (pc_q := 65) (l_q := L416) (st_q := [.int (i32 (lv)), rv (me)]) rfl (jl_iloadn g418) ?_
            have q424 := tz_b (F272 (sc) (15 : Int))
            have q425 : F272 (sc) (7 : Int) = F (sc) (7 : Int) := ((show F272 (sc) (7 : Int) = Fx (sc) (7 : Int) from hM276 _ _ ho3.1 (own_z ho3.1) (by rw [ho3.2]; rfl)).trans (show Fx (sc) (7 : Int) = F (sc) (7 : Int) from hMx _ _ o_sc (own_z o_sc) (by rw [t_sc]; rfl)))
            have q426 := lz_b (F272 (sc) (14 : Int))
            have q427 : F272 (pg) (9 : Int) = Fx (pg) (9 : Int) := (show F272 (pg) (9 : Int) = Fx (pg) (9 : Int) from hM276 _ _ ho4.1 (own_z ho4.1) (by rw [ho4.2]; rfl))
            refine cx_vi (c := 8) (a := me) (st := []) (as := [.int (i32 (lv))]) rfl rfl rfl ho304.1 ho304.2 (by decide) rfl ⟨rfl, rfl, (Nat.le_of_ble_eq_true rfl)⟩ rfl (k_LParser_needLevel (dd := d) (R := R) (m := m271) (tg := tg271) (ln := ln271) (F := F272) (me := me) (lv := lv) (hd := by omega) (hC := hC275) (o_me := ho304.1) (t_me := ho304.2) (h_lv := by omega) (sc := sc) (pg := pg) (o_sc := ho308.1) (t_sc := ho308.2) (e_sc := (((show F272 (me) (1 : Int) = Fx (me) (1 : Int) from hM276 _ _ ho2.1 (own_z ho2.1) (by rw [ho2.2]; rfl)).trans (show Fx (me) (1 : Int) = F (me) (1 : Int) from hMx _ _ o_me (own_z o_me) (by rw [t_me]; rfl))).trans e_sc)) (o_pg := ho309.1) (t_pg := ho309.2) (e_pg := (((show F272 (me) (0 : Int) = Fx (me) (0 : Int) from hM276 _ _ ho2.1 (own_z ho2.1) (by rw [ho2.2]; rfl)).trans (show Fx (me) (0 : Int) = F (me) (0 : Int) from hMx _ _ o_me (own_z o_me) (by rw [t_me]; rfl))).trans e_pg)) (p_0 := by omega) (p_1 := by omega) (p_2 := by omega) (c_NP := c287)) (fun o V_q hq => ?_)
            obtain ⟨m428, tg428, ln428, F429, rfl, rfl, hx430, hC431, hM432, p433, p434, p435, p436, p437, p438, p439, p440, p441, c442, c443, -⟩ | ⟨m444, tg444, ln444, F444, x444, rfl, rfl, hx444, hC444, hM444, ho444, ht444, p445, p446, p447, p448, c449, c450, -⟩ := hq
            rotate_left
            ·
              have c451 : NM m m444 tg444 := NM_t c311 hx444 c450
              have lm452 := hx444.1
              refine Or.inr (Or.inr (Or.inr ⟨_, _, rfl, cx_exc (c := 15) ho444 ht444 (by decide), rfl, ?_⟩))
              have q453 : F272 (sc) (7 : Int) = F (sc) (7 : Int) := q425
              exact Or.inr ⟨m444, tg444, ln444, F444, x444, rfl, rfl, Ex_t hX310 hx444, hC444, Fq_t (ln := ln) (ln1 := ln271) hM299 hX310 hM444 (by decide) (Or.inl rfl), (And.intro ho444 ht444).1, (And.intro ho444 ht444).2, by omega, by omega, by omega, by omega, c449, c451, trivial⟩
            have hM454 : Fq 0 [(7, 15), (9, 2), (9, 3), (10, 0), (10, 1), (10, 2), (10, 8), (10, 9), (11, 8), (11, 12), (11, 13), (11, 14), (11, 15), (11, 16), (11, 17), (11, 18)] m tg F F429 := Fq_t (ln := ln) (ln1 := ln271) hM299 hX310 hM432 (by decide) (Or.inl rfl)
            have lm455 := hx430.1
            have lt456 : F (me) (2 : Int) < 64 + (m271 : Int) := by rcases y305 with w | w; (· omega); exact w.1.2.1
            have lt457 : r273 < 64 + (m271 : Int) := b277.1.2.1
            have lt458 : F272 (me) (2 : Int) < 64 + (m271 : Int) := ho415.1.2.1
            have ho459 : own m428 (me) ∧ tg428 (me) = 9 := Ex_o hx430 ⟨ho304.1, ho304.2⟩
            have y460 : F (me) (2 : Int) = 0 ∨ (own m428 (F (me) (2 : Int)) ∧ tg428 (F (me) (2 : Int)) = 7) := Ex_z hx430 y305
            have ho461 : own m428 (r273) ∧ tg428 (r273) = 7 := Ex_o hx430 ⟨b277.1, b277.2⟩
            have ho462 : own m428 (F272 (me) (2 : Int)) ∧ tg428 (F272 (me) (2 : Int)) = 7 := Ex_o hx430 ⟨ho415.1, ho415.2⟩
            have ho463 : own m428 (sc) ∧ tg428 (sc) = 11 := Ex_o hx430 ⟨ho308.1, ho308.2⟩
            have ho464 : own m428 (pg) ∧ tg428 (pg) = 10 := Ex_o hx430 ⟨ho309.1, ho309.2⟩
            have hX465 := Ex_t hX310 hx430
            have c466 : NM m m428 tg428 := NM_t c311 hx430 c443
            refine Or.inl ⟨rfl, ?_⟩
            refine jx_inc (pc_q := 71) (l_q := jSto1 L416 5 (.int (i32 (k + (1))))) (x := k) rfl g420 (by decide) rfl rfl ?_
            obtain ⟨L467, eL467⟩ : ∃ q : jL, q = jSto1 L416 5 (.int (i32 ((k + (1))))) := ⟨_, rfl⟩
            rw [← eL467]
            have g468 : jGet L467 0 = some (rv (me)) := eL467 ▸ jg_nr (by decide) g417
            have g469 : jGet L467 1 = some (.int (i32 (lv))) := eL467 ▸ jg_ne (by decide) g418 rfl
            have g470 : jGet L467 2 = some (rv (F (me) (2 : Int))) := eL467 ▸ jg_nr (by decide) g419
            have g471 : jGet L467 6 = some (rv (r273)) := eL467 ▸ jg_nr (by decide) g421
            have g472 : jGet L467 3 = some (rv (r273)) := eL467 ▸ jg_nr (by decide) g422
            have g473 : jGet L467 4 = some (rv (F272 (me) (2 : Int))) := eL467 ▸ jg_nr (by decide) g423
            have g474 : jGet L467 5 = some (.int (i32 ((k + (1))))) := eL467 ▸ jg_eq
            clear eL467
            refine jx_go (tg := 18) rfl rfl ?_
            have q475 : F429 (sc) (8 : Int) = F272 (sc) (8 : Int) := (show F429 (sc) (8 : Int) = F272 (sc) (8 : Int) from hM432 _ _ ho308.1 (own_z ho308.1) (by rw [ho308.2]; rfl))
            have q476 : F429 (sc) (15 : Int) = F272 (sc) (15 : Int) := (show F429 (sc) (15 : Int) = F272 (sc) (15 : Int) from hM432 _ _ ho308.1 (own_z ho308.1) (by rw [ho308.2]; rfl))
            have q477 : tz (F429 (sc) (15 : Int)) = tz (F272 (sc) (15 : Int)) := by rw [q476]
            have q478 := tz_b (F272 (sc) (15 : Int))
            have q479 : F429 (sc) (14 : Int) = F272 (sc) (14 : Int) := (show F429 (sc) (14 : Int) = F272 (sc) (14 : Int) from hM432 _ _ ho308.1 (own_z ho308.1) (by rw [ho308.2]; rfl))
            have q480 : lz (F429 (sc) (14 : Int)) = lz (F272 (sc) (14 : Int)) := by rw [q479]
            have q481 := lz_b (F272 (sc) (14 : Int))
            have q482 : F429 (pg) (9 : Int) = Fx (pg) (9 : Int) := ((show F429 (pg) (9 : Int) = F272 (pg) (9 : Int) from hM432 _ _ ho309.1 (own_z ho309.1) (by rw [ho309.2]; rfl)).trans q427)
            have q483 : F429 (F272 (me) (2 : Int)) (14 : Int) = F272 (F272 (me) (2 : Int)) (14 : Int) := (show F429 (F272 (me) (2 : Int)) (14 : Int) = F272 (F272 (me) (2 : Int)) (14 : Int) from hM432 _ _ ho415.1 (own_z ho415.1) (by rw [ho415.2]; rfl))
            exact ih _ (by omega) L467 m428 tg428 ln428 F429 ((k + (1))) (r273) (F272 (me) (2 : Int)) rfl g468 g469 g470 g474 g472 g473 hX465 hC431 hM454 (by omega) (Or.inr ⟨ho461.1, ho461.2⟩) (Or.inr ⟨ho462.1, ho462.2⟩) (by omega) (by omega) (by omega) (by omega) (by omega) (by omega) (by omega) (by omega) (by omega) (by omega) (by omega) (by omega) c442 c466
    · have _q := h7
      have ho484 : own mx (la) ∧ tgx (la) = 7 := yx_la.resolve_left h7
      refine jx_ld (pc_q := 20) (l_q := L) (st_q := [.int (i32 (k))]) rfl (jl_iload gL_5) ?_
      refine jx_ar (pc_q := 23) (st_q := [.int (i32 (3000)), .int (i32 (k))]) rfl rfl rfl rfl ?_
      refine jx_icmp_ge (pc_q := 26) (tg := 74) rfl rfl rfl (by omega) (by omega) (by decide) (by decide) (fun h485 => ?_) (fun h485 => ?_)
      · have _q := h485
        refine cx_newp (pc_q := 77) (c := 7) rfl rfl (by decide) rfl rfl hCx rfl (by decide) (fun n486 m486 tg486 ln486 F486 en486 em486 ho486 hx486 hC486 hf486 h0486 hs486 => ?_)
        have ex486 : 64 + (m : Int) ≤ n486 := by have := hXx.1; omega
        have lm487 := hx486.1
        have lt488 : F (me) (2 : Int) < 64 + (mx : Int) := by rcases y6 with w | w; (· omega); exact w.1.2.1
        have lt489 : nm < 64 + (mx : Int) := by rcases yx_nm with w | w; (· omega); exact w.1.2.1
        have lt490 : la < 64 + (mx : Int) := ho484.1.2.1
        have ho491 : own m486 (me) ∧ tg486 (me) = 9 := Ex_o hx486 ⟨ho2.1, ho2.2⟩
        have y492 : F (me) (2 : Int) = 0 ∨ (own m486 (F (me) (2 : Int)) ∧ tg486 (F (me) (2 : Int)) = 7) := Ex_z hx486 y6
        have y493 : nm = 0 ∨ (own m486 (nm) ∧ tg486 (nm) = 7) := Ex_z hx486 yx_nm
        have ho494 : own m486 (la) ∧ tg486 (la) = 7 := Ex_o hx486 ⟨ho484.1, ho484.2⟩
        have ho495 : own m486 (sc) ∧ tg486 (sc) = 11 := Ex_o hx486 ⟨ho3.1, ho3.2⟩
        have ho496 : own m486 (pg) ∧ tg486 (pg) = 10 := Ex_o hx486 ⟨ho4.1, ho4.2⟩
        have hX497 := Ex_t hXx hx486
        have hM498 : Fq 0 [(7, 15), (9, 2), (9, 3), (10, 0), (10, 1), (10, 2), (10, 8), (10, 9), (11, 8), (11, 12), (11, 13), (11, 14), (11, 15), (11, 16), (11, 17), (11, 18)] m tg F F486 := Fq_n hMx hf486 ex486
        have c499 : NM m m486 tg486 := NM_n cx_NM hCx.1 hx486 en486 em486 ho486.2 (by decide)
        refine jx_ar (pc_q := 78) (st_q := [rv (n486), rv (n486)]) rfl rfl ja_dup rfl ?_
        refine jx_ar (pc_q := 79) (st_q := [.int (i32 (0)), rv (n486), rv (n486)]) rfl rfl rfl rfl ?_
        refine jx_ld (pc_q := 80) (l_q := L) (st_q := [rv (me), .int (i32 (0)), rv (n486), rv (n486)]) rfl (jl_rvn gL_0) ?_
        refine cx_gr (pc_q := 83) (c := 8) (q := 1) (v := sc) rfl rfl (by decide) (by decide) rfl rfl ho491.1 ho491.2 (((show F486 (me) (1 : Int) = Fx (me) (1 : Int) from hf486 _ _ (ne_n ho2.1 en486)).trans (show Fx (me) (1 : Int) = F (me) (1 : Int) from hMx _ _ o_me (own_z o_me) (by rw [t_me]; rfl))).trans e_sc) ?_
        refine cx_gi (pc_q := 86) (c := 10) (q := 13) (v := Fx (sc) (13 : Int)) rfl rfl (by decide) (by decide) (Or.inl rfl) rfl ho495.1 ho495.2 (show F486 (sc) (13 : Int) = Fx (sc) (13 : Int) from hf486 _ _ (ne_n ho3.1 en486)) ?_
        have b500 : (-2147483648 : Int) ≤ Fx (sc) (13 : Int) ∧ Fx (sc) (13 : Int) ≤ 2147483647 := by have z := HC_i (c := 10) (q := 13) hC486 ho495.1 ho495.2 (by decide) rfl; rw [show F486 (sc) ((13 : Nat) : Int) = Fx (sc) (13 : Int) from (show F486 (sc) (13 : Int) = Fx (sc) (13 : Int) from hf486 _ _ (ne_n ho3.1 en486))] at z; exact z
        refine cx_sp (kd := 2) (a := n486) (st := [rv (n486)]) (as := [.int (i32 (0)), .int (i32 (Fx (sc) (13 : Int)))]) rfl rfl (by decide) rfl ho486.1.1 ⟨rfl, (by rw [jS_r, jS_0]; exact Nat.le_of_ble_eq_true rfl)⟩ rfl (k_LNode_init (dd := d) (R := R) (m := m486) (tg := tg486) (ln := ln486) (F := F486) (me := n486) (kd := 0) (l := Fx (sc) (13 : Int)) (hd := by omega) (hC := hC486) (o_me := ho486.1) (t_me := ho486.2) (h_kd := by omega) (h_l := by omega) (z_me := h0486)) (fun o V_q hq => ?_)
        obtain ⟨F501, rfl, rfl, hC502, hM503, p504, zp505, -⟩ := hq
        have hM506 : Fq 0 [(7, 15), (9, 2), (9, 3), (10, 0), (10, 1), (10, 2), (10, 8), (10, 9), (11, 8), (11, 12), (11, 13), (11, 14), (11, 15), (11, 16), (11, 17), (11, 18)] m tg F F501 := Fq_t (ln := ln) (ln1 := ln486) hM498 hX497 hM503 (by decide) (Or.inr (Or.inr ex486))
        have c507 : NP m486 tg486 F501 := NP_nn hCx cx_NP hx486 en486 em486 (fun b i ob => (hM503 b i (own_m ob hx486.1) (ne_n ob en486) rfl).trans (hf486 b i (ne_n ob en486))) (fun _ => (zp505 _ (by decide) (by decide))) (fun w => absurd (ho486.2.symm.trans w) (by decide)) (fun w => absurd (ho486.2.symm.trans w) (by decide))
        refine Or.inl ⟨rfl, ?_⟩
        refine jx_ld (pc_q := 91) (l_q := jSto1 L 5 (rv (n486))) (st_q := []) rfl (js_rv (by decide)) ?_
        obtain ⟨L508, eL508⟩ : ∃ q : jL, q = jSto1 L 5 (rv (n486)) := ⟨_, rfl⟩
        rw [← eL508]
        have g509 : jGet L508 0 = some (rv (me)) := eL508 ▸ jg_nr (by decide) gL_0
        have g510 : jGet L508 1 = some (.int (i32 (lv))) := eL508 ▸ jg_ne (by decide) gL_1 rfl
        have g511 : jGet L508 2 = some (rv (F (me) (2 : Int))) := eL508 ▸ jg_nr (by decide) gL_2
        have g512 : jGet L508 3 = some (rv (nm)) := eL508 ▸ jg_nr (by decide) gL_3
        have g513 : jGet L508 4 = some (rv (la)) := eL508 ▸ jg_nr (by decide) gL_4
        have g514 : jGet L508 5 = some (rv (n486)) := eL508 ▸ jg_eq
        clear eL508
        refine jx_ld (pc_q := 93) (l_q := L508) (st_q := [rv (n486)]) rfl (jl_rv g514) ?_
        refine jx_ld (pc_q := 94) (l_q := L508) (st_q := [rv (nm), rv (n486)]) rfl (jl_rvn g512) ?_
        refine cx_po (pc_q := 97) (c := 7) (q := 9) (qi := (9 : Int)) (z := nm) rfl rfl (by decide) (by decide) rfl rfl rfl (by decide) rfl ho486.1 ho486.2 rfl ?_
        obtain ⟨F515, eF515⟩ : ∃ q, q = uF F501 (n486) (9 : Int) (nm) := ⟨_, rfl⟩
        rw [← eF515]
        have hC516 : HC 0 m486 tg486 ln486 F515 := by rw [eF515]; exact HC_fr (c := 7) (q := 9) (by decide) hC502 ho486.2 (by decide) rfl y493 ⟨fun w => absurd w (by decide), fun w => absurd w (by decide)⟩
        have hM517 : Fq 0 [(7, 15), (9, 2), (9, 3), (10, 0), (10, 1), (10, 2), (10, 8), (10, 9), (11, 8), (11, 12), (11, 13), (11, 14), (11, 15), (11, 16), (11, 17), (11, 18)] m tg F F515 := by rw [eF515]; exact Fq_x hM506 (Or.inr ex486)
        have c518 : NP m486 tg486 F515 := by rw [eF515]; exact NP_un hC502 c507 ho486.1 ho486.2 (show F501 (n486) (103 : Int) = 0 from zp505 _ (by decide) (by decide)) (by decide) (Or.inl (by decide))
        refine jx_ld (pc_q := 98) (l_q := L508) (st_q := [rv (me)]) rfl (jl_rvn g509) ?_
        refine jx_ld (pc_q := 100) (l_q := L508) (st_q := [rv (n486), rv (me)]) rfl (jl_rv g514) ?_
        refine jx_ld (pc_q := 101) (l_q := L508) (st_q := [.int (i32 (lv)), rv (n486), rv (me)]) rfl (jl_iloadn g510) ?_
        have q519 : F515 (sc) (8 : Int) = Fx (sc) (8 : Int) := ((show F515 (sc) (8 : Int) = F501 (sc) (8 : Int) from by rw [eF515]; exact uF_j (by decide)).trans ((show F501 (sc) (8 : Int) = F486 (sc) (8 : Int) from hM503 _ _ ho495.1 (fun w => by have q1 := ho495.2; rw [w, ho486.2] at q1; exact absurd q1 (by decide)) (by rw [ho495.2]; rfl)).trans (show F486 (sc) (8 : Int) = Fx (sc) (8 : Int) from hf486 _ _ (ne_n ho3.1 en486))))
        have q520 : F515 (sc) (15 : Int) = Fx (sc) (15 : Int) := ((show F515 (sc) (15 : Int) = F501 (sc) (15 : Int) from by rw [eF515]; exact uF_j (by decide)).trans ((show F501 (sc) (15 : Int) = F486 (sc) (15 : Int) from hM503 _ _ ho495.1 (fun w => by have q1 := ho495.2; rw [w, ho486.2] at q1; exact absurd q1 (by decide)) (by rw [ho495.2]; rfl)).trans (show F486 (sc) (15 : Int) = Fx (sc) (15 : Int) from hf486 _ _ (ne_n ho3.1 en486))))
        have q521 : tz (F515 (sc) (15 : Int)) = tz (Fx (sc) (15 : Int)) := by rw [q520]
        have q522 := tz_b (Fx (sc) (15 : Int))
        have q523 : F515 (sc) (7 : Int) = F (sc) (7 : Int) := ((show F515 (sc) (7 : Int) = F501 (sc) (7 : Int) from by rw [eF515]; exact uF_j (by decide)).trans ((show F501 (sc) (7 : Int) = F486 (sc) (7 : Int) from hM503 _ _ ho495.1 (fun w => by have q1 := ho495.2; rw [w, ho486.2] at q1; exact absurd q1 (by decide)) (by rw [ho495.2]; rfl)).trans ((show F486 (sc) (7 : Int) = Fx (sc) (7 : Int) from hf486 _ _ (ne_n ho3.1 en486)).trans (show Fx (sc) (7 : Int) = F (sc) (7 : Int) from hMx _ _ o_sc (own_z o_sc) (by rw [t_sc]; rfl)))))
        have q524 : F515 (sc) (14 : Int) = Fx (sc) (14 : Int) := ((show F515 (sc) (14 : Int) = F501 (sc) (14 : Int) from by rw [eF515]; exact uF_j (by decide)).trans ((show F501 (sc) (14 : Int) = F486 (sc) (14 : Int) from hM503 _ _ ho495.1 (fun w => by have q1 := ho495.2; rw [w, ho486.2] at q1; exact absurd q1 (by decide)) (by rw [ho495.2]; rfl)).trans (show F486 (sc) (14 : Int) = Fx (sc) (14 : Int) from hf486 _ _ (ne_n ho3.1 en486))))
        have q525 : lz (F515 (sc) (14 : Int)) = lz (Fx (sc) (14 : Int)) := by rw [q524]
        have q526 := lz_b (Fx (sc) (14 : Int))
        have q527 : F515 (n486) (0 : Int) = F501 (n486) (0 : Int) := (show F515 (n486) (0 : Int) = F501 (n486) (0 : Int) from by rw [eF515]; exact uF_j (by decide))
        have q528 : F515 (n486) (3 : Int) = 0 := ((show F515 (n486) (3 : Int) = F501 (n486) (3 : Int) from by rw [eF515]; exact uF_j (by decide)).trans (show F501 (n486) (3 : Int) = 0 from zp505 _ (by decide) (by decide)))
        have q529 : F515 (n486) (4 : Int) = 0 := ((show F515 (n486) (4 : Int) = F501 (n486) (4 : Int) from by rw [eF515]; exact uF_j (by decide)).trans (show F501 (n486) (4 : Int) = 0 from zp505 _ (by decide) (by decide)))
        have q530 : F515 (n486) (5 : Int) = 0 := ((show F515 (n486) (5 : Int) = F501 (n486) (5 : Int) from by rw [eF515]; exact uF_j (by decide)).trans (show F501 (n486) (5 : Int) = 0 from zp505 _ (by decide) (by decide)))
        have q531 : F515 (n486) (6 : Int) = 0 := ((show F515 (n486) (6 : Int) = F501 (n486) (6 : Int) from by rw [eF515]; exact uF_j (by decide)).trans (show F501 (n486) (6 : Int) = 0 from zp505 _ (by decide) (by decide)))
        have q532 : F515 (n486) (7 : Int) = 0 := ((show F515 (n486) (7 : Int) = F501 (n486) (7 : Int) from by rw [eF515]; exact uF_j (by decide)).trans (show F501 (n486) (7 : Int) = 0 from zp505 _ (by decide) (by decide)))
        have q533 : F515 (n486) (8 : Int) = 0 := ((show F515 (n486) (8 : Int) = F501 (n486) (8 : Int) from by rw [eF515]; exact uF_j (by decide)).trans (show F501 (n486) (8 : Int) = 0 from zp505 _ (by decide) (by decide)))
        have q534 : F515 (n486) (101 : Int) = 0 := ((show F515 (n486) (101 : Int) = F501 (n486) (101 : Int) from by rw [eF515]; exact uF_j (by decide)).trans (show F501 (n486) (101 : Int) = 0 from zp505 _ (by decide) (by decide)))
        have q535 : F515 (n486) (103 : Int) = 0 := ((show F515 (n486) (103 : Int) = F501 (n486) (103 : Int) from by rw [eF515]; exact uF_j (by decide)).trans (show F501 (n486) (103 : Int) = 0 from zp505 _ (by decide) (by decide)))
        have q536 : F515 (pg) (9 : Int) = Fx (pg) (9 : Int) := ((show F515 (pg) (9 : Int) = F501 (pg) (9 : Int) from by rw [eF515]; exact uF_a (fun w => by have q1 := ho496.2; have q2 := ho486.2; rw [w, q2] at q1; exact absurd q1 (by decide))).trans ((show F501 (pg) (9 : Int) = F486 (pg) (9 : Int) from hM503 _ _ ho496.1 (fun w => by have q1 := ho496.2; rw [w, ho486.2] at q1; exact absurd q1 (by decide)) (by rw [ho496.2]; rfl)).trans (show F486 (pg) (9 : Int) = Fx (pg) (9 : Int) from hf486 _ _ (ne_n ho4.1 en486))))
        refine cx_vi (c := 8) (a := me) (st := []) (as := [rv (n486), .int (i32 (lv))]) rfl rfl rfl ho491.1 ho491.2 (by decide) rfl ⟨rfl, rfl, (Nat.le_of_ble_eq_true rfl)⟩ rfl (k_LParser_readStatement (dd := d) (R := R) (m := m486) (tg := tg486) (ln := ln486) (F := F515) (kk := kk) (hE := hE) (me := me) (p := n486) (lv := lv) (hd := by omega) (hC := hC516) (o_me := ho491.1) (t_me := ho491.2) (o_p := ho486.1) (t_p := ho486.2) (h_lv := by omega) (sc := sc) (pg := pg) (o_sc := ho495.1) (t_sc := ho495.2) (e_sc := (((show F515 (me) (1 : Int) = F501 (me) (1 : Int) from by rw [eF515]; exact uF_j (by decide)).trans ((show F501 (me) (1 : Int) = F486 (me) (1 : Int) from hM503 _ _ ho491.1 (fun w => by have q1 := ho491.2; rw [w, ho486.2] at q1; exact absurd q1 (by decide)) (by rw [ho491.2]; rfl)).trans ((show F486 (me) (1 : Int) = Fx (me) (1 : Int) from hf486 _ _ (ne_n ho2.1 en486)).trans (show Fx (me) (1 : Int) = F (me) (1 : Int) from hMx _ _ o_me (own_z o_me) (by rw [t_me]; rfl))))).trans e_sc)) (o_pg := ho496.1) (t_pg := ho496.2) (e_pg := (((show F515 (me) (0 : Int) = F501 (me) (0 : Int) from by rw [eF515]; exact uF_j (by decide)).trans ((show F501 (me) (0 : Int) = F486 (me) (0 : Int) from hM503 _ _ ho491.1 (fun w => by have q1 := ho491.2; rw [w, ho486.2] at q1; exact absurd q1 (by decide)) (by rw [ho491.2]; rfl)).trans ((show F486 (me) (0 : Int) = Fx (me) (0 : Int) from hf486 _ _ (ne_n ho2.1 en486)).trans (show Fx (me) (0 : Int) = F (me) (0 : Int) from hMx _ _ o_me (own_z o_me) (by rw [t_me]; rfl))))).trans e_pg)) (p_0 := by omega) (p_1 := by omega) (p_2 := by omega) (p_3 := by omega) (p_4 := by omega) (p_5 := by omega) (p_6 := by omega) (p_7 := by omega) (p_8 := by omega) (p_9 := by omega) (p_10 := by omega) (p_11 := by omega) (p_12 := by omega) (p_13 := by omega) (p_14 := by omega) (c_NP := c518)) (fun o V_q hq => ?_)
        obtain ⟨m537, tg537, ln537, F538, rfl, rfl, hx539, hC540, hM541, p542, p543, p544, p545, p546, p547, p548, c549, c550, -⟩ | ⟨m551, tg551, ln551, F551, x551, rfl, rfl, hx551, hC551, hM551, ho551, ht551, p552, p553, p554, p555, c556, c557, -⟩ := hq
        rotate_left
        ·
          have c558 : NM m m551 tg551 := NM_t c499 hx551 c557
          have lm559 := hx551.1
          refine Or.inr (Or.inr (Or.inr ⟨_, _, rfl, cx_exc (c := 15) ho551 ht551 (by decide), rfl, ?_⟩))
          have q560 : F515 (sc) (8 : Int) = Fx (sc) (8 : Int) := q519
          have q561 : F515 (sc) (7 : Int) = F (sc) (7 : Int) := q523
          exact Or.inr ⟨m551, tg551, ln551, F551, x551, rfl, rfl, Ex_t hX497 hx551, hC551, Fq_t (ln := ln) (ln1 := ln486) hM517 hX497 hM551 (by decide) (Or.inr (Or.inr ex486)), (And.intro ho551 ht551).1, (And.intro ho551 ht551).2, by omega, by omega, by omega, by omega, c556, c558, trivial⟩
        have hM562 : Fq 0 [(7, 15), (9, 2), (9, 3), (10, 0), (10, 1), (10, 2), (10, 8), (10, 9), (11, 8), (11, 12), (11, 13), (11, 14), (11, 15), (11, 16), (11, 17), (11, 18)] m tg F F538 := Fq_t (ln := ln) (ln1 := ln486) hM517 hX497 hM541 (by decide) (Or.inr (Or.inr ex486))
        have lm563 := hx539.1
        have lt564 : F (me) (2 : Int) < 64 + (m486 : Int) := by rcases y492 with w | w; (· omega); exact w.1.2.1
        have lt565 : nm < 64 + (m486 : Int) := by rcases y493 with w | w; (· omega); exact w.1.2.1
        have lt566 : la < 64 + (m486 : Int) := ho494.1.2.1
        have lt567 : n486 < 64 + (m486 : Int) := ho486.1.2.1
        have ho568 : own m537 (me) ∧ tg537 (me) = 9 := Ex_o hx539 ⟨ho491.1, ho491.2⟩
        have y569 : F (me) (2 : Int) = 0 ∨ (own m537 (F (me) (2 : Int)) ∧ tg537 (F (me) (2 : Int)) = 7) := Ex_z hx539 y492
        have y570 : nm = 0 ∨ (own m537 (nm) ∧ tg537 (nm) = 7) := Ex_z hx539 y493
        have ho571 : own m537 (la) ∧ tg537 (la) = 7 := Ex_o hx539 ⟨ho494.1, ho494.2⟩
        have ho572 : own m537 (n486) ∧ tg537 (n486) = 8 := Ex_o hx539 ⟨ho486.1, ho486.2⟩
        have ho573 : own m537 (sc) ∧ tg537 (sc) = 11 := Ex_o hx539 ⟨ho495.1, ho495.2⟩
        have ho574 : own m537 (pg) ∧ tg537 (pg) = 10 := Ex_o hx539 ⟨ho496.1, ho496.2⟩
        have hX575 := Ex_t hX497 hx539
        have q576 := p548.1
        have q577 := p548.2.1
        have q578 := p548.2.2.1
        have c579 : NM m m537 tg537 := NM_t c499 hx539 c550
        refine Or.inl ⟨rfl, ?_⟩
        refine jx_ld (pc_q := 105) (l_q := L508) (st_q := [rv (me)]) rfl (jl_rvn g509) ?_
        refine jx_ld (pc_q := 106) (l_q := L508) (st_q := [rv (F (me) (2 : Int)), rv (me)]) rfl (jl_rvn g511) ?_
        refine cx_po (pc_q := 109) (c := 8) (q := 2) (qi := (2 : Int)) (z := F (me) (2 : Int)) rfl rfl (by decide) (by decide) rfl rfl rfl (by decide) rfl ho568.1 ho568.2 rfl ?_
        obtain ⟨F580, eF580⟩ : ∃ q, q = uF F538 (me) (2 : Int) (F (me) (2 : Int)) := ⟨_, rfl⟩
        rw [← eF580]
        have hC581 : HC 0 m537 tg537 ln537 F580 := by rw [eF580]; exact HC_fr (c := 8) (q := 2) (by decide) hC540 ho568.2 (by decide) rfl y569 ⟨fun w => absurd w (by decide), fun w => absurd w (by decide)⟩
        have hM582 : Fq 0 [(7, 15), (9, 2), (9, 3), (10, 0), (10, 1), (10, 2), (10, 8), (10, 9), (11, 8), (11, 12), (11, 13), (11, 14), (11, 15), (11, 16), (11, 17), (11, 18)] m tg F F580 := by rw [eF580]; exact Fq_p hM562 ho568.2 (fun w => (hX575.2 _ w).1) rfl
        have w583 : WK F580 n486 (60 - 2 * lv) := by rw [eF580]; exact WK_u p548 hC540 ho572.1 ho572.2 ho568.2 (by omega)
        have c584 : NP m537 tg537 F580 := by rw [eF580]; exact NP_u hC540 c549 ho568.2 (by omega)
        have q585 := w583.1
        have q586 := w583.2.1
        have q587 := w583.2.2.1
        rw [← cV_gh (F := F580) (a := n486) (j := 100) (z := 60 - 2 * lv) (Or.inr ⟨by decide, by rw [ho572.2]; decide⟩)]
        obtain ⟨F588, eF588⟩ : ∃ q, q = uF F580 (n486) (100 : Int) (60 - 2 * lv) := ⟨_, rfl⟩
        rw [← eF588]
        have hC589 : HC 0 m537 tg537 ln537 F588 := by rw [eF588]; exact HC_gh hC581 (by rw [ho572.2]; decide) (by decide)
        have hM590 : Fq 0 [(7, 15), (9, 2), (9, 3), (10, 0), (10, 1), (10, 2), (10, 8), (10, 9), (11, 8), (11, 12), (11, 13), (11, 14), (11, 15), (11, 16), (11, 17), (11, 18)] m tg F F588 := by rw [eF588]; exact Fq_x hM582 (Or.inr ex486)
        rw [← cV_gh (F := F588) (a := n486) (j := 103) (z := 1) (Or.inr ⟨by decide, by rw [ho572.2]; decide⟩)]
        obtain ⟨F591, eF591⟩ : ∃ q, q = uF F588 (n486) (103 : Int) (1) := ⟨_, rfl⟩
        rw [← eF591]
        have hC592 : HC 0 m537 tg537 ln537 F591 := by rw [eF591]; exact HC_gh hC589 (by rw [ho572.2]; decide) (by decide)
        have hM593 : Fq 0 [(7, 15), (9, 2), (9, 3), (10, 0), (10, 1), (10, 2), (10, 8), (10, 9), (11, 8), (11, 12), (11, 13), (11, 14), (11, 15), (11, 16), (11, 17), (11, 18)] m tg F F591 := by rw [eF591]; exact Fq_x hM590 (Or.inr ex486)
        have c594 : NP m537 tg537 F591 := by rw [eF591, eF588]; exact NP_seal hC581 c584 ho572.1 ho572.2 w583 (by omega)
        refine jx_ld (pc_q := 111) (l_q := L508) (st_q := [rv (n486)]) rfl (jl_rv g514) ?_
        refine jx_rt (v := some (rv (n486))) rfl rfl rfl rfl rfl jr_are ?_
        have q595 : F591 (sc) (7 : Int) = F (sc) (7 : Int) := ((show F591 (sc) (7 : Int) = F588 (sc) (7 : Int) from by rw [eF591]; exact uF_j (by decide)).trans ((show F588 (sc) (7 : Int) = F580 (sc) (7 : Int) from by rw [eF588]; exact uF_j (by decide)).trans ((show F580 (sc) (7 : Int) = F538 (sc) (7 : Int) from by rw [eF580]; exact uF_j (by decide)).trans ((show F538 (sc) (7 : Int) = F515 (sc) (7 : Int) from hM541 _ _ ho495.1 (fun w => by have q1 := ho495.2; rw [w, ho486.2] at q1; exact absurd q1 (by decide)) (by rw [ho495.2]; rfl)).trans q523))))
        have q596 : F591 (sc) (8 : Int) = F538 (sc) (8 : Int) := ((show F591 (sc) (8 : Int) = F588 (sc) (8 : Int) from by rw [eF591]; exact uF_j (by decide)).trans ((show F588 (sc) (8 : Int) = F580 (sc) (8 : Int) from by rw [eF588]; exact uF_j (by decide)).trans (show F580 (sc) (8 : Int) = F538 (sc) (8 : Int) from by rw [eF580]; exact uF_j (by decide))))
        have q597 : F591 (pg) (9 : Int) = F538 (pg) (9 : Int) := ((show F591 (pg) (9 : Int) = F588 (pg) (9 : Int) from by rw [eF591]; exact uF_j (by decide)).trans ((show F588 (pg) (9 : Int) = F580 (pg) (9 : Int) from by rw [eF588]; exact uF_j (by decide)).trans (show F580 (pg) (9 : Int) = F538 (pg) (9 : Int) from by rw [eF580]; exact uF_j (by decide))))
        have q598 : F591 (me) (2 : Int) = F (me) (2 : Int) := ((show F591 (me) (2 : Int) = F588 (me) (2 : Int) from by rw [eF591]; exact uF_j (by decide)).trans ((show F588 (me) (2 : Int) = F580 (me) (2 : Int) from by rw [eF588]; exact uF_j (by decide)).trans (show F580 (me) (2 : Int) = F (me) (2 : Int) from by rw [eF580]; exact uF_e)))
        have q599 : F591 (sc) (8 : Int) = F538 (sc) (8 : Int) := q596
        have q600 : F591 (sc) (15 : Int) = F538 (sc) (15 : Int) := ((show F591 (sc) (15 : Int) = F588 (sc) (15 : Int) from by rw [eF591]; exact uF_j (by decide)).trans ((show F588 (sc) (15 : Int) = F580 (sc) (15 : Int) from by rw [eF588]; exact uF_j (by decide)).trans (show F580 (sc) (15 : Int) = F538 (sc) (15 : Int) from by rw [eF580]; exact uF_j (by decide))))
        have q601 : tz (F591 (sc) (15 : Int)) = tz (F538 (sc) (15 : Int)) := by rw [q600]
        have q602 := tz_b (F538 (sc) (15 : Int))
        have q603 : F591 (sc) (14 : Int) = F538 (sc) (14 : Int) := ((show F591 (sc) (14 : Int) = F588 (sc) (14 : Int) from by rw [eF591]; exact uF_j (by decide)).trans ((show F588 (sc) (14 : Int) = F580 (sc) (14 : Int) from by rw [eF588]; exact uF_j (by decide)).trans (show F580 (sc) (14 : Int) = F538 (sc) (14 : Int) from by rw [eF580]; exact uF_j (by decide))))
        have q604 : lz (F591 (sc) (14 : Int)) = lz (F538 (sc) (14 : Int)) := by rw [q603]
        have q605 := lz_b (F538 (sc) (14 : Int))
        have q606 : F591 (pg) (9 : Int) = F538 (pg) (9 : Int) := q597
        have q607 : F591 (n486) (103 : Int) = 1 := (show F591 (n486) (103 : Int) = 1 from by rw [eF591]; exact uF_e)
        have q608 : F591 (n486) (100 : Int) = 60 - 2 * lv := ((show F591 (n486) (100 : Int) = F588 (n486) (100 : Int) from by rw [eF591]; exact uF_j (by decide)).trans (show F588 (n486) (100 : Int) = 60 - 2 * lv from by rw [eF588]; exact uF_e))
        have q609 : F591 (n486) (101 : Int) = F538 (n486) (101 : Int) := ((show F591 (n486) (101 : Int) = F588 (n486) (101 : Int) from by rw [eF591]; exact uF_j (by decide)).trans ((show F588 (n486) (101 : Int) = F580 (n486) (101 : Int) from by rw [eF588]; exact uF_j (by decide)).trans (show F580 (n486) (101 : Int) = F538 (n486) (101 : Int) from by rw [eF580]; exact uF_j (by decide))))
        have q610 : F591 (n486) (8 : Int) = F538 (n486) (8 : Int) := ((show F591 (n486) (8 : Int) = F588 (n486) (8 : Int) from by rw [eF591]; exact uF_j (by decide)).trans ((show F588 (n486) (8 : Int) = F580 (n486) (8 : Int) from by rw [eF588]; exact uF_j (by decide)).trans (show F580 (n486) (8 : Int) = F538 (n486) (8 : Int) from by rw [eF580]; exact uF_j (by decide))))
        have q611 : F591 (me) (2 : Int) = F (me) (2 : Int) := q598
        exact Or.inl ⟨m537, tg537, ln537, F591, (n486), rfl, rfl, hX575, hC592, hM593, ⟨ho572.1, ho572.2⟩, by omega, by omega, by omega, by omega, by omega, by omega, by omega, by omega, by omega, by omega, by omega, by omega, c594, c579, trivial⟩
      · have _q := h485
        refine jx_ld (pc_q := 27) (l_q := L) (st_q := [rv (me)]) rfl (jl_rvn gL_0) ?_
        have q612 := tz_b (Fx (sc) (15 : Int))
        refine cx_vi (c := 8) (a := me) (st := []) (as := []) rfl rfl rfl ho2.1 ho2.2 (by decide) rfl ⟨rfl, rfl, (Nat.le_of_ble_eq_true rfl)⟩ rfl (k_LParser_startsDeclaration (dd := d) (R := R) (m := mx) (tg := tgx) (ln := lnx) (F := Fx) (me := me) (hd := by omega) (hC := hCx) (o_me := ho2.1) (t_me := ho2.2) (sc := sc) (pg := pg) (o_sc := ho3.1) (t_sc := ho3.2) (e_sc := ((show Fx (me) (1 : Int) = F (me) (1 : Int) from hMx _ _ o_me (own_z o_me) (by rw [t_me]; rfl)).trans e_sc)) (o_pg := ho4.1) (t_pg := ho4.2) (e_pg := ((show Fx (me) (0 : Int) = F (me) (0 : Int) from hMx _ _ o_me (own_z o_me) (by rw [t_me]; rfl)).trans e_pg)) (c_NP := cx_NP)) (fun o V_q hq => ?_)
        obtain ⟨r613, rfl, rfl, b614, p615, c616, c617, -⟩ := hq
        refine Or.inr (Or.inl ⟨_, rfl, ?_⟩)
        refine jx_if_eq (pc_q := 33) (tg := 74) rfl rfl rfl (by omega) (by omega) (fun h618 => ?_) (fun h618 => ?_)
        · have _q := h618
          refine cx_newp (pc_q := 77) (c := 7) rfl rfl (by decide) rfl rfl hCx rfl (by decide) (fun n619 m619 tg619 ln619 F619 en619 em619 ho619 hx619 hC619 hf619 h0619 hs619 => ?_)
          have ex619 : 64 + (m : Int) ≤ n619 := by have := hXx.1; omega
          have lm620 := hx619.1
          have lt621 : F (me) (2 : Int) < 64 + (mx : Int) := by rcases y6 with w | w; (· omega); exact w.1.2.1
          have lt622 : nm < 64 + (mx : Int) := by rcases yx_nm with w | w; (· omega); exact w.1.2.1
          have lt623 : la < 64 + (mx : Int) := ho484.1.2.1
          have ho624 : own m619 (me) ∧ tg619 (me) = 9 := Ex_o hx619 ⟨ho2.1, ho2.2⟩
          have y625 : F (me) (2 : Int) = 0 ∨ (own m619 (F (me) (2 : Int)) ∧ tg619 (F (me) (2 : Int)) = 7) := Ex_z hx619 y6
          have y626 : nm = 0 ∨ (own m619 (nm) ∧ tg619 (nm) = 7) := Ex_z hx619 yx_nm
          have ho627 : own m619 (la) ∧ tg619 (la) = 7 := Ex_o hx619 ⟨ho484.1, ho484.2⟩
          have ho628 : own m619 (sc) ∧ tg619 (sc) = 11 := Ex_o hx619 ⟨ho3.1, ho3.2⟩
          have ho629 : own m619 (pg) ∧ tg619 (pg) = 10 := Ex_o hx619 ⟨ho4.1, ho4.2⟩
          have hX630 := Ex_t hXx hx619
          have hM631 : Fq 0 [(7, 15), (9, 2), (9, 3), (10, 0), (10, 1), (10, 2), (10, 8), (10, 9), (11, 8), (11, 12), (11, 13), (11, 14), (11, 15), (11, 16), (11, 17), (11, 18)] m tg F F619 := Fq_n hMx hf619 ex619
          have c632 : NM m m619 tg619 := NM_n cx_NM hCx.1 hx619 en619 em619 ho619.2 (by decide)
          refine jx_ar (pc_q := 78) (st_q := [rv (n619), rv (n619)]) rfl rfl ja_dup rfl ?_
          refine jx_ar (pc_q := 79) (st_q := [.int (i32 (0)), rv (n619), rv (n619)]) rfl rfl rfl rfl ?_
          refine jx_ld (pc_q := 80) (l_q := L) (st_q := [rv (me), .int (i32 (0)), rv (n619), rv (n619)]) rfl (jl_rvn gL_0) ?_
          refine cx_gr (pc_q := 83) (c := 8) (q := 1) (v := sc) rfl rfl (by decide) (by decide) rfl rfl ho624.1 ho624.2 (((show F619 (me) (1 : Int) = Fx (me) (1 : Int) from hf619 _ _ (ne_n ho2.1 en619)).trans (show Fx (me) (1 : Int) = F (me) (1 : Int) from hMx _ _ o_me (own_z o_me) (by rw [t_me]; rfl))).trans e_sc) ?_
          refine cx_gi (pc_q := 86) (c := 10) (q := 13) (v := Fx (sc) (13 : Int)) rfl rfl (by decide) (by decide) (Or.inl rfl) rfl ho628.1 ho628.2 (show F619 (sc) (13 : Int) = Fx (sc) (13 : Int) from hf619 _ _ (ne_n ho3.1 en619)) ?_
          have b633 : (-2147483648 : Int) ≤ Fx (sc) (13 : Int) ∧ Fx (sc) (13 : Int) ≤ 2147483647 := by have z := HC_i (c := 10) (q := 13) hC619 ho628.1 ho628.2 (by decide) rfl; rw [show F619 (sc) ((13 : Nat) : Int) = Fx (sc) (13 : Int) from (show F619 (sc) (13 : Int) = Fx (sc) (13 : Int) from hf619 _ _ (ne_n ho3.1 en619))] at z; exact z
          refine cx_sp (kd := 2) (a := n619) (st := [rv (n619)]) (as := [.int (i32 (0)), .int (i32 (Fx (sc) (13 : Int)))]) rfl rfl (by decide) rfl ho619.1.1 ⟨rfl, (by rw [jS_r, jS_0]; exact Nat.le_of_ble_eq_true rfl)⟩ rfl (k_LNode_init (dd := d) (R := R) (m := m619) (tg := tg619) (ln := ln619) (F := F619) (me := n619) (kd := 0) (l := Fx (sc) (13 : Int)) (hd := by omega) (hC := hC619) (o_me := ho619.1) (t_me := ho619.2) (h_kd := by omega) (h_l := by omega) (z_me := h0619)) (fun o V_q hq => ?_)
          obtain ⟨F634, rfl, rfl, hC635, hM636, p637, zp638, -⟩ := hq
          have hM639 : Fq 0 [(7, 15), (9, 2), (9, 3), (10, 0), (10, 1), (10, 2), (10, 8), (10, 9), (11, 8), (11, 12), (11, 13), (11, 14), (11, 15), (11, 16), (11, 17), (11, 18)] m tg F F634 := Fq_t (ln := ln) (ln1 := ln619) hM631 hX630 hM636 (by decide) (Or.inr (Or.inr ex619))
          have c640 : NP m619 tg619 F634 := NP_nn hCx c616 hx619 en619 em619 (fun b i ob => (hM636 b i (own_m ob hx619.1) (ne_n ob en619) rfl).trans (hf619 b i (ne_n ob en619))) (fun _ => (zp638 _ (by decide) (by decide))) (fun w => absurd (ho619.2.symm.trans w) (by decide)) (fun w => absurd (ho619.2.symm.trans w) (by decide))
          refine Or.inl ⟨rfl, ?_⟩
          refine jx_ld (pc_q := 91) (l_q := jSto1 L 5 (rv (n619))) (st_q := []) rfl (js_rv (by decide)) ?_
          obtain ⟨L641, eL641⟩ : ∃ q : jL, q = jSto1 L 5 (rv (n619)) := ⟨_, rfl⟩
          rw [← eL641]
          have g642 : jGet L641 0 = some (rv (me)) := eL641 ▸ jg_nr (by decide) gL_0
          have g643 : jGet L641 1 = some (.int (i32 (lv))) := eL641 ▸ jg_ne (by decide) gL_1 rfl
          have g644 : jGet L641 2 = some (rv (F (me) (2 : Int))) := eL641 ▸ jg_nr (by decide) gL_2
          have g645 : jGet L641 3 = some (rv (nm)) := eL641 ▸ jg_nr (by decide) gL_3
          have g646 : jGet L641 4 = some (rv (la)) := eL641 ▸ jg_nr (by decide) gL_4
          have g647 : jGet L641 5 = some (rv (n619)) := eL641 ▸ jg_eq
          clear eL641
          refine jx_ld (pc_q := 93) (l_q := L641) (st_q := [rv (n619)]) rfl (jl_rv g647) ?_
          refine jx_ld (pc_q := 94) (l_q := L641) (st_q := [rv (nm), rv (n619)]) rfl (jl_rvn g645) ?_
          refine cx_po (pc_q := 97) (c := 7) (q := 9) (qi := (9 : Int)) (z := nm) rfl rfl (by decide) (by decide) rfl rfl rfl (by decide) rfl ho619.1 ho619.2 rfl ?_
          obtain ⟨F648, eF648⟩ : ∃ q, q = uF F634 (n619) (9 : Int) (nm) := ⟨_, rfl⟩
          rw [← eF648]
          have hC649 : HC 0 m619 tg619 ln619 F648 := by rw [eF648]; exact HC_fr (c := 7) (q := 9) (by decide) hC635 ho619.2 (by decide) rfl y626 ⟨fun w => absurd w (by decide), fun w => absurd w (by decide)⟩
          have hM650 : Fq 0 [(7, 15), (9, 2), (9, 3), (10, 0), (10, 1), (10, 2), (10, 8), (10, 9), (11, 8), (11, 12), (11, 13), (11, 14), (11, 15), (11, 16), (11, 17), (11, 18)] m tg F F648 := by rw [eF648]; exact Fq_x hM639 (Or.inr ex619)
          have c651 : NP m619 tg619 F648 := by rw [eF648]; exact NP_un hC635 c640 ho619.1 ho619.2 (show F634 (n619) (103 : Int) = 0 from zp638 _ (by decide) (by decide)) (by decide) (Or.inl (by decide))
          refine jx_ld (pc_q := 98) (l_q := L641) (st_q := [rv (me)]) rfl (jl_rvn g642) ?_
          refine jx_ld (pc_q := 100) (l_q := L641) (st_q := [rv (n619), rv (me)]) rfl (jl_rv g647) ?_
          refine jx_ld (pc_q := 101) (l_q := L641) (st_q := [.int (i32 (lv)), rv (n619), rv (me)]) rfl (jl_iloadn g643) ?_
          have q652 : F648 (sc) (8 : Int) = Fx (sc) (8 : Int) := ((show F648 (sc) (8 : Int) = F634 (sc) (8 : Int) from by rw [eF648]; exact uF_j (by decide)).trans ((show F634 (sc) (8 : Int) = F619 (sc) (8 : Int) from hM636 _ _ ho628.1 (fun w => by have q1 := ho628.2; rw [w, ho619.2] at q1; exact absurd q1 (by decide)) (by rw [ho628.2]; rfl)).trans (show F619 (sc) (8 : Int) = Fx (sc) (8 : Int) from hf619 _ _ (ne_n ho3.1 en619))))
          have q653 : F648 (sc) (15 : Int) = Fx (sc) (15 : Int) := ((show F648 (sc) (15 : Int) = F634 (sc) (15 : Int) from by rw [eF648]; exact uF_j (by decide)).trans ((show F634 (sc) (15 : Int) = F619 (sc) (15 : Int) from hM636 _ _ ho628.1 (fun w => by have q1 := ho628.2; rw [w, ho619.2] at q1; exact absurd q1 (by decide)) (by rw [ho628.2]; rfl)).trans (show F619 (sc) (15 : Int) = Fx (sc) (15 : Int) from hf619 _ _ (ne_n ho3.1 en619))))
          have q654 : tz (F648 (sc) (15 : Int)) = tz (Fx (sc) (15 : Int)) := by rw [q653]
          have q655 := tz_b (Fx (sc) (15 : Int))
          have q656 : F648 (sc) (7 : Int) = F (sc) (7 : Int) := ((show F648 (sc) (7 : Int) = F634 (sc) (7 : Int) from by rw [eF648]; exact uF_j (by decide)).trans ((show F634 (sc) (7 : Int) = F619 (sc) (7 : Int) from hM636 _ _ ho628.1 (fun w => by have q1 := ho628.2; rw [w, ho619.2] at q1; exact absurd q1 (by decide)) (by rw [ho628.2]; rfl)).trans ((show F619 (sc) (7 : Int) = Fx (sc) (7 : Int) from hf619 _ _ (ne_n ho3.1 en619)).trans (show Fx (sc) (7 : Int) = F (sc) (7 : Int) from hMx _ _ o_sc (own_z o_sc) (by rw [t_sc]; rfl)))))
          have q657 : F648 (sc) (14 : Int) = Fx (sc) (14 : Int) := ((show F648 (sc) (14 : Int) = F634 (sc) (14 : Int) from by rw [eF648]; exact uF_j (by decide)).trans ((show F634 (sc) (14 : Int) = F619 (sc) (14 : Int) from hM636 _ _ ho628.1 (fun w => by have q1 := ho628.2; rw [w, ho619.2] at q1; exact absurd q1 (by decide)) (by rw [ho628.2]; rfl)).trans (show F619 (sc) (14 : Int) = Fx (sc) (14 : Int) from hf619 _ _ (ne_n ho3.1 en619))))
          have q658 : lz (F648 (sc) (14 : Int)) = lz (Fx (sc) (14 : Int)) := by rw [q657]
          have q659 := lz_b (Fx (sc) (14 : Int))
          have q660 : F648 (n619) (0 : Int) = F634 (n619) (0 : Int) := (show F648 (n619) (0 : Int) = F634 (n619) (0 : Int) from by rw [eF648]; exact uF_j (by decide))
          have q661 : F648 (n619) (3 : Int) = 0 := ((show F648 (n619) (3 : Int) = F634 (n619) (3 : Int) from by rw [eF648]; exact uF_j (by decide)).trans (show F634 (n619) (3 : Int) = 0 from zp638 _ (by decide) (by decide)))
          have q662 : F648 (n619) (4 : Int) = 0 := ((show F648 (n619) (4 : Int) = F634 (n619) (4 : Int) from by rw [eF648]; exact uF_j (by decide)).trans (show F634 (n619) (4 : Int) = 0 from zp638 _ (by decide) (by decide)))
          have q663 : F648 (n619) (5 : Int) = 0 := ((show F648 (n619) (5 : Int) = F634 (n619) (5 : Int) from by rw [eF648]; exact uF_j (by decide)).trans (show F634 (n619) (5 : Int) = 0 from zp638 _ (by decide) (by decide)))
          have q664 : F648 (n619) (6 : Int) = 0 := ((show F648 (n619) (6 : Int) = F634 (n619) (6 : Int) from by rw [eF648]; exact uF_j (by decide)).trans (show F634 (n619) (6 : Int) = 0 from zp638 _ (by decide) (by decide)))
          have q665 : F648 (n619) (7 : Int) = 0 := ((show F648 (n619) (7 : Int) = F634 (n619) (7 : Int) from by rw [eF648]; exact uF_j (by decide)).trans (show F634 (n619) (7 : Int) = 0 from zp638 _ (by decide) (by decide)))
          have q666 : F648 (n619) (8 : Int) = 0 := ((show F648 (n619) (8 : Int) = F634 (n619) (8 : Int) from by rw [eF648]; exact uF_j (by decide)).trans (show F634 (n619) (8 : Int) = 0 from zp638 _ (by decide) (by decide)))
          have q667 : F648 (n619) (101 : Int) = 0 := ((show F648 (n619) (101 : Int) = F634 (n619) (101 : Int) from by rw [eF648]; exact uF_j (by decide)).trans (show F634 (n619) (101 : Int) = 0 from zp638 _ (by decide) (by decide)))
          have q668 : F648 (n619) (103 : Int) = 0 := ((show F648 (n619) (103 : Int) = F634 (n619) (103 : Int) from by rw [eF648]; exact uF_j (by decide)).trans (show F634 (n619) (103 : Int) = 0 from zp638 _ (by decide) (by decide)))
          have q669 : F648 (pg) (9 : Int) = Fx (pg) (9 : Int) := ((show F648 (pg) (9 : Int) = F634 (pg) (9 : Int) from by rw [eF648]; exact uF_a (fun w => by have q1 := ho629.2; have q2 := ho619.2; rw [w, q2] at q1; exact absurd q1 (by decide))).trans ((show F634 (pg) (9 : Int) = F619 (pg) (9 : Int) from hM636 _ _ ho629.1 (fun w => by have q1 := ho629.2; rw [w, ho619.2] at q1; exact absurd q1 (by decide)) (by rw [ho629.2]; rfl)).trans (show F619 (pg) (9 : Int) = Fx (pg) (9 : Int) from hf619 _ _ (ne_n ho4.1 en619))))
          refine cx_vi (c := 8) (a := me) (st := []) (as := [rv (n619), .int (i32 (lv))]) rfl rfl rfl ho624.1 ho624.2 (by decide) rfl ⟨rfl, rfl, (Nat.le_of_ble_eq_true rfl)⟩ rfl (k_LParser_readStatement (dd := d) (R := R) (m := m619) (tg := tg619) (ln := ln619) (F := F648) (kk := kk) (hE := hE) (me := me) (p := n619) (lv := lv) (hd := by omega) (hC := hC649) (o_me := ho624.1) (t_me := ho624.2) (o_p := ho619.1) (t_p := ho619.2) (h_lv := by omega) (sc := sc) (pg := pg) (o_sc := ho628.1) (t_sc := ho628.2) (e_sc := (((show F648 (me) (1 : Int) = F634 (me) (1 : Int) from by rw [eF648]; exact uF_j (by decide)).trans ((show F634 (me) (1 : Int) = F619 (me) (1 : Int) from hM636 _ _ ho624.1 (fun w => by have q1 := ho624.2; rw [w, ho619.2] at q1; exact absurd q1 (by decide)) (by rw [ho624.2]; rfl)).trans ((show F619 (me) (1 : Int) = Fx (me) (1 : Int) from hf619 _ _ (ne_n ho2.1 en619)).trans (show Fx (me) (1 : Int) = F (me) (1 : Int) from hMx _ _ o_me (own_z o_me) (by rw [t_me]; rfl))))).trans e_sc)) (o_pg := ho629.1) (t_pg := ho629.2) (e_pg := (((show F648 (me) (0 : Int) = F634 (me) (0 : Int) from by rw [eF648]; exact uF_j (by decide)).trans ((show F634 (me) (0 : Int) = F619 (me) (0 : Int) from hM636 _ _ ho624.1 (fun w => by have q1 := ho624.2; rw [w, ho619.2] at q1; exact absurd q1 (by decide)) (by rw [ho624.2]; rfl)).trans ((show F619 (me) (0 : Int) = Fx (me) (0 : Int) from hf619 _ _ (ne_n ho2.1 en619)).trans (show Fx (me) (0 : Int) = F (me) (0 : Int) from hMx _ _ o_me (own_z o_me) (by rw [t_me]; rfl))))).trans e_pg)) (p_0 := by omega) (p_1 := by omega) (p_2 := by omega) (p_3 := by omega) (p_4 := by omega) (p_5 := by omega) (p_6 := by omega) (p_7 := by omega) (p_8 := by omega) (p_9 := by omega) (p_10 := by omega) (p_11 := by omega) (p_12 := by omega) (p_13 := by omega) (p_14 := by omega) (c_NP := c651)) (fun o V_q hq => ?_)
          obtain ⟨m670, tg670, ln670, F671, rfl, rfl, hx672, hC673, hM674, p675, p676, p677, p678, p679, p680, p681, c682, c683, -⟩ | ⟨m684, tg684, ln684, F684, x684, rfl, rfl, hx684, hC684, hM684, ho684, ht684, p685, p686, p687, p688, c689, c690, -⟩ := hq
          rotate_left
          ·
            have c691 : NM m m684 tg684 := NM_t c632 hx684 c690
            have lm692 := hx684.1
            refine Or.inr (Or.inr (Or.inr ⟨_, _, rfl, cx_exc (c := 15) ho684 ht684 (by decide), rfl, ?_⟩))
            have q693 : F648 (sc) (8 : Int) = Fx (sc) (8 : Int) := q652
            have q694 : F648 (sc) (7 : Int) = F (sc) (7 : Int) := q656
            exact Or.inr ⟨m684, tg684, ln684, F684, x684, rfl, rfl, Ex_t hX630 hx684, hC684, Fq_t (ln := ln) (ln1 := ln619) hM650 hX630 hM684 (by decide) (Or.inr (Or.inr ex619)), (And.intro ho684 ht684).1, (And.intro ho684 ht684).2, by omega, by omega, by omega, by omega, c689, c691, trivial⟩
          have hM695 : Fq 0 [(7, 15), (9, 2), (9, 3), (10, 0), (10, 1), (10, 2), (10, 8), (10, 9), (11, 8), (11, 12), (11, 13), (11, 14), (11, 15), (11, 16), (11, 17), (11, 18)] m tg F F671 := Fq_t (ln := ln) (ln1 := ln619) hM650 hX630 hM674 (by decide) (Or.inr (Or.inr ex619))
          have lm696 := hx672.1
          have lt697 : F (me) (2 : Int) < 64 + (m619 : Int) := by rcases y625 with w | w; (· omega); exact w.1.2.1
          have lt698 : nm < 64 + (m619 : Int) := by rcases y626 with w | w; (· omega); exact w.1.2.1
          have lt699 : la < 64 + (m619 : Int) := ho627.1.2.1
          have lt700 : n619 < 64 + (m619 : Int) := ho619.1.2.1
          have ho701 : own m670 (me) ∧ tg670 (me) = 9 := Ex_o hx672 ⟨ho624.1, ho624.2⟩
          have y702 : F (me) (2 : Int) = 0 ∨ (own m670 (F (me) (2 : Int)) ∧ tg670 (F (me) (2 : Int)) = 7) := Ex_z hx672 y625
          have y703 : nm = 0 ∨ (own m670 (nm) ∧ tg670 (nm) = 7) := Ex_z hx672 y626
          have ho704 : own m670 (la) ∧ tg670 (la) = 7 := Ex_o hx672 ⟨ho627.1, ho627.2⟩
          have ho705 : own m670 (n619) ∧ tg670 (n619) = 8 := Ex_o hx672 ⟨ho619.1, ho619.2⟩
          have ho706 : own m670 (sc) ∧ tg670 (sc) = 11 := Ex_o hx672 ⟨ho628.1, ho628.2⟩
          have ho707 : own m670 (pg) ∧ tg670 (pg) = 10 := Ex_o hx672 ⟨ho629.1, ho629.2⟩
          have hX708 := Ex_t hX630 hx672
          have q709 := p681.1
          have q710 := p681.2.1
          have q711 := p681.2.2.1
          have c712 : NM m m670 tg670 := NM_t c632 hx672 c683
          refine Or.inl ⟨rfl, ?_⟩
          refine jx_ld (pc_q := 105) (l_q := L641) (st_q := [rv (me)]) rfl (jl_rvn g642) ?_
          refine jx_ld (pc_q := 106) (l_q := L641) (st_q := [rv (F (me) (2 : Int)), rv (me)]) rfl (jl_rvn g644) ?_
          refine cx_po (pc_q := 109) (c := 8) (q := 2) (qi := (2 : Int)) (z := F (me) (2 : Int)) rfl rfl (by decide) (by decide) rfl rfl rfl (by decide) rfl ho701.1 ho701.2 rfl ?_
          obtain ⟨F713, eF713⟩ : ∃ q, q = uF F671 (me) (2 : Int) (F (me) (2 : Int)) := ⟨_, rfl⟩
          rw [← eF713]
          have hC714 : HC 0 m670 tg670 ln670 F713 := by rw [eF713]; exact HC_fr (c := 8) (q := 2) (by decide) hC673 ho701.2 (by decide) rfl y702 ⟨fun w => absurd w (by decide), fun w => absurd w (by decide)⟩
          have hM715 : Fq 0 [(7, 15), (9, 2), (9, 3), (10, 0), (10, 1), (10, 2), (10, 8), (10, 9), (11, 8), (11, 12), (11, 13), (11, 14), (11, 15), (11, 16), (11, 17), (11, 18)] m tg F F713 := by rw [eF713]; exact Fq_p hM695 ho701.2 (fun w => (hX708.2 _ w).1) rfl
          have w716 : WK F713 n619 (60 - 2 * lv) := by rw [eF713]; exact WK_u p681 hC673 ho705.1 ho705.2 ho701.2 (by omega)
          have c717 : NP m670 tg670 F713 := by rw [eF713]; exact NP_u hC673 c682 ho701.2 (by omega)
          have q718 := w716.1
          have q719 := w716.2.1
          have q720 := w716.2.2.1
          rw [← cV_gh (F := F713) (a := n619) (j := 100) (z := 60 - 2 * lv) (Or.inr ⟨by decide, by rw [ho705.2]; decide⟩)]
          obtain ⟨F721, eF721⟩ : ∃ q, q = uF F713 (n619) (100 : Int) (60 - 2 * lv) := ⟨_, rfl⟩
          rw [← eF721]
          have hC722 : HC 0 m670 tg670 ln670 F721 := by rw [eF721]; exact HC_gh hC714 (by rw [ho705.2]; decide) (by decide)
          have hM723 : Fq 0 [(7, 15), (9, 2), (9, 3), (10, 0), (10, 1), (10, 2), (10, 8), (10, 9), (11, 8), (11, 12), (11, 13), (11, 14), (11, 15), (11, 16), (11, 17), (11, 18)] m tg F F721 := by rw [eF721]; exact Fq_x hM715 (Or.inr ex619)
          rw [← cV_gh (F := F721) (a := n619) (j := 103) (z := 1) (Or.inr ⟨by decide, by rw [ho705.2]; decide⟩)]
          obtain ⟨F724, eF724⟩ : ∃ q, q = uF F721 (n619) (103 : Int) (1) := ⟨_, rfl⟩
          rw [← eF724]
          have hC725 : HC 0 m670 tg670 ln670 F724 := by rw [eF724]; exact HC_gh hC722 (by rw [ho705.2]; decide) (by decide)
          have hM726 : Fq 0 [(7, 15), (9, 2), (9, 3), (10, 0), (10, 1), (10, 2), (10, 8), (10, 9), (11, 8), (11, 12), (11, 13), (11, 14), (11, 15), (11, 16), (11, 17), (11, 18)] m tg F F724 := by rw [eF724]; exact Fq_x hM723 (Or.inr ex619)
          have c727 : NP m670 tg670 F724 := by rw [eF724, eF721]; exact NP_seal hC714 c717 ho705.1 ho705.2 w716 (by omega)
          refine jx_ld (pc_q := 111) (l_q := L641) (st_q := [rv (n619)]) rfl (jl_rv g647) ?_
          refine jx_rt (v := some (rv (n619))) rfl rfl rfl rfl rfl jr_are ?_
          have q728 : F724 (sc) (7 : Int) = F (sc) (7 : Int) := ((show F724 (sc) (7 : Int) = F721 (sc) (7 : Int) from by rw [eF724]; exact uF_j (by decide)).trans ((show F721 (sc) (7 : Int) = F713 (sc) (7 : Int) from by rw [eF721]; exact uF_j (by decide)).trans ((show F713 (sc) (7 : Int) = F671 (sc) (7 : Int) from by rw [eF713]; exact uF_j (by decide)).trans ((show F671 (sc) (7 : Int) = F648 (sc) (7 : Int) from hM674 _ _ ho628.1 (fun w => by have q1 := ho628.2; rw [w, ho619.2] at q1; exact absurd q1 (by decide)) (by rw [ho628.2]; rfl)).trans q656))))
          have q729 : F724 (sc) (8 : Int) = F671 (sc) (8 : Int) := ((show F724 (sc) (8 : Int) = F721 (sc) (8 : Int) from by rw [eF724]; exact uF_j (by decide)).trans ((show F721 (sc) (8 : Int) = F713 (sc) (8 : Int) from by rw [eF721]; exact uF_j (by decide)).trans (show F713 (sc) (8 : Int) = F671 (sc) (8 : Int) from by rw [eF713]; exact uF_j (by decide))))
          have q730 : F724 (pg) (9 : Int) = F671 (pg) (9 : Int) := ((show F724 (pg) (9 : Int) = F721 (pg) (9 : Int) from by rw [eF724]; exact uF_j (by decide)).trans ((show F721 (pg) (9 : Int) = F713 (pg) (9 : Int) from by rw [eF721]; exact uF_j (by decide)).trans (show F713 (pg) (9 : Int) = F671 (pg) (9 : Int) from by rw [eF713]; exact uF_j (by decide))))
          have q731 : F724 (me) (2 : Int) = F (me) (2 : Int) := ((show F724 (me) (2 : Int) = F721 (me) (2 : Int) from by rw [eF724]; exact uF_j (by decide)).trans ((show F721 (me) (2 : Int) = F713 (me) (2 : Int) from by rw [eF721]; exact uF_j (by decide)).trans (show F713 (me) (2 : Int) = F (me) (2 : Int) from by rw [eF713]; exact uF_e)))
          have q732 : F724 (sc) (8 : Int) = F671 (sc) (8 : Int) := q729
          have q733 : F724 (sc) (15 : Int) = F671 (sc) (15 : Int) := ((show F724 (sc) (15 : Int) = F721 (sc) (15 : Int) from by rw [eF724]; exact uF_j (by decide)).trans ((show F721 (sc) (15 : Int) = F713 (sc) (15 : Int) from by rw [eF721]; exact uF_j (by decide)).trans (show F713 (sc) (15 : Int) = F671 (sc) (15 : Int) from by rw [eF713]; exact uF_j (by decide))))
          have q734 : tz (F724 (sc) (15 : Int)) = tz (F671 (sc) (15 : Int)) := by rw [q733]
          have q735 := tz_b (F671 (sc) (15 : Int))
          have q736 : F724 (sc) (14 : Int) = F671 (sc) (14 : Int) := ((show F724 (sc) (14 : Int) = F721 (sc) (14 : Int) from by rw [eF724]; exact uF_j (by decide)).trans ((show F721 (sc) (14 : Int) = F713 (sc) (14 : Int) from by rw [eF721]; exact uF_j (by decide)).trans (show F713 (sc) (14 : Int) = F671 (sc) (14 : Int) from by rw [eF713]; exact uF_j (by decide))))
          have q737 : lz (F724 (sc) (14 : Int)) = lz (F671 (sc) (14 : Int)) := by rw [q736]
          have q738 := lz_b (F671 (sc) (14 : Int))
          have q739 : F724 (pg) (9 : Int) = F671 (pg) (9 : Int) := q730
          have q740 : F724 (n619) (103 : Int) = 1 := (show F724 (n619) (103 : Int) = 1 from by rw [eF724]; exact uF_e)
          have q741 : F724 (n619) (100 : Int) = 60 - 2 * lv := ((show F724 (n619) (100 : Int) = F721 (n619) (100 : Int) from by rw [eF724]; exact uF_j (by decide)).trans (show F721 (n619) (100 : Int) = 60 - 2 * lv from by rw [eF721]; exact uF_e))
          have q742 : F724 (n619) (101 : Int) = F671 (n619) (101 : Int) := ((show F724 (n619) (101 : Int) = F721 (n619) (101 : Int) from by rw [eF724]; exact uF_j (by decide)).trans ((show F721 (n619) (101 : Int) = F713 (n619) (101 : Int) from by rw [eF721]; exact uF_j (by decide)).trans (show F713 (n619) (101 : Int) = F671 (n619) (101 : Int) from by rw [eF713]; exact uF_j (by decide))))
          have q743 : F724 (n619) (8 : Int) = F671 (n619) (8 : Int) := ((show F724 (n619) (8 : Int) = F721 (n619) (8 : Int) from by rw [eF724]; exact uF_j (by decide)).trans ((show F721 (n619) (8 : Int) = F713 (n619) (8 : Int) from by rw [eF721]; exact uF_j (by decide)).trans (show F713 (n619) (8 : Int) = F671 (n619) (8 : Int) from by rw [eF713]; exact uF_j (by decide))))
          have q744 : F724 (me) (2 : Int) = F (me) (2 : Int) := q731
          exact Or.inl ⟨m670, tg670, ln670, F724, (n619), rfl, rfl, hX708, hC725, hM726, ⟨ho705.1, ho705.2⟩, by omega, by omega, by omega, by omega, by omega, by omega, by omega, by omega, by omega, by omega, by omega, by omega, c727, c712, trivial⟩
        · have _q := h618
          refine jx_ld (pc_q := 34) (l_q := L) (st_q := [rv (me)]) rfl (jl_rvn gL_0) ?_
          have q745 := tz_b (Fx (sc) (15 : Int))
          have q746 : Fx (sc) (7 : Int) = F (sc) (7 : Int) := (show Fx (sc) (7 : Int) = F (sc) (7 : Int) from hMx _ _ o_sc (own_z o_sc) (by rw [t_sc]; rfl))
          have q747 := lz_b (Fx (sc) (14 : Int))
          refine cx_vi (c := 8) (a := me) (st := []) (as := []) rfl rfl rfl ho2.1 ho2.2 (by decide) rfl ⟨rfl, rfl, (Nat.le_of_ble_eq_true rfl)⟩ rfl (k_LParser_readDeclaration (dd := d) (R := R) (m := mx) (tg := tgx) (ln := lnx) (F := Fx) (me := me) (hd := by omega) (hC := hCx) (o_me := ho2.1) (t_me := ho2.2) (sc := sc) (pg := pg) (o_sc := ho3.1) (t_sc := ho3.2) (e_sc := ((show Fx (me) (1 : Int) = F (me) (1 : Int) from hMx _ _ o_me (own_z o_me) (by rw [t_me]; rfl)).trans e_sc)) (o_pg := ho4.1) (t_pg := ho4.2) (e_pg := ((show Fx (me) (0 : Int) = F (me) (0 : Int) from hMx _ _ o_me (own_z o_me) (by rw [t_me]; rfl)).trans e_pg)) (p_0 := by omega) (p_1 := by omega) (p_2 := by omega) (c_NP := c616)) (fun o V_q hq => ?_)
          obtain ⟨m748, tg748, ln748, F749, r750, rfl, rfl, hx751, hC752, hM753, b754, p755, p756, p757, p758, p759, p760, p761, p762, p763, c764, c765, -⟩ | ⟨m766, tg766, ln766, F766, x766, rfl, rfl, hx766, hC766, hM766, ho766, ht766, p767, p768, p769, p770, c771, c772, -⟩ := hq
          rotate_left
          ·
            have c773 : NM m m766 tg766 := NM_t cx_NM hx766 c772
            have lm774 := hx766.1
            refine Or.inr (Or.inr (Or.inr ⟨_, _, rfl, cx_exc (c := 15) ho766 ht766 (by decide), rfl, ?_⟩))
            have q775 : Fx (sc) (7 : Int) = F (sc) (7 : Int) := (show Fx (sc) (7 : Int) = F (sc) (7 : Int) from hMx _ _ o_sc (own_z o_sc) (by rw [t_sc]; rfl))
            exact Or.inr ⟨m766, tg766, ln766, F766, x766, rfl, rfl, Ex_t hXx hx766, hC766, Fq_t (ln := ln) (ln1 := lnx) hMx hXx hM766 (by decide) (Or.inl rfl), (And.intro ho766 ht766).1, (And.intro ho766 ht766).2, by omega, by omega, by omega, by omega, c771, c773, trivial⟩
          have hM776 : Fq 0 [(7, 15), (9, 2), (9, 3), (10, 0), (10, 1), (10, 2), (10, 8), (10, 9), (11, 8), (11, 12), (11, 13), (11, 14), (11, 15), (11, 16), (11, 17), (11, 18)] m tg F F749 := Fq_t (ln := ln) (ln1 := lnx) hMx hXx hM753 (by decide) (Or.inl rfl)
          have lm777 := hx751.1
          have lt778 : F (me) (2 : Int) < 64 + (mx : Int) := by rcases y6 with w | w; (· omega); exact w.1.2.1
          have lt779 : nm < 64 + (mx : Int) := by rcases yx_nm with w | w; (· omega); exact w.1.2.1
          have lt780 : la < 64 + (mx : Int) := ho484.1.2.1
          have ho781 : own m748 (me) ∧ tg748 (me) = 9 := Ex_o hx751 ⟨ho2.1, ho2.2⟩
          have y782 : F (me) (2 : Int) = 0 ∨ (own m748 (F (me) (2 : Int)) ∧ tg748 (F (me) (2 : Int)) = 7) := Ex_z hx751 y6
          have y783 : nm = 0 ∨ (own m748 (nm) ∧ tg748 (nm) = 7) := Ex_z hx751 yx_nm
          have ho784 : own m748 (la) ∧ tg748 (la) = 7 := Ex_o hx751 ⟨ho484.1, ho484.2⟩
          have ho785 : own m748 (sc) ∧ tg748 (sc) = 11 := Ex_o hx751 ⟨ho3.1, ho3.2⟩
          have ho786 : own m748 (pg) ∧ tg748 (pg) = 10 := Ex_o hx751 ⟨ho4.1, ho4.2⟩
          have hX787 := Ex_t hXx hx751
          have c788 : NM m m748 tg748 := NM_t cx_NM hx751 c765
          refine Or.inr (Or.inl ⟨_, rfl, ?_⟩)
          refine jx_ld (pc_q := 39) (l_q := jSto1 L 6 (rv (r750))) (st_q := []) rfl (js_rv (by decide)) ?_
          obtain ⟨L789, eL789⟩ : ∃ q : jL, q = jSto1 L 6 (rv (r750)) := ⟨_, rfl⟩
          rw [← eL789]
          have g790 : jGet L789 0 = some (rv (me)) := eL789 ▸ jg_nr (by decide) gL_0
          have g791 : jGet L789 1 = some (.int (i32 (lv))) := eL789 ▸ jg_ne (by decide) gL_1 rfl
          have g792 : jGet L789 2 = some (rv (F (me) (2 : Int))) := eL789 ▸ jg_nr (by decide) gL_2
          have g793 : jGet L789 5 = some (.int (i32 (k))) := eL789 ▸ jg_ne (by decide) gL_5 rfl
          have g794 : jGet L789 3 = some (rv (nm)) := eL789 ▸ jg_nr (by decide) gL_3
          have g795 : jGet L789 4 = some (rv (la)) := eL789 ▸ jg_nr (by decide) gL_4
          have g796 : jGet L789 6 = some (rv (r750)) := eL789 ▸ jg_eq
          clear eL789
          refine jx_ld (pc_q := 41) (l_q := L789) (st_q := [rv (la)]) rfl (jl_rv g795) ?_
          refine cx_non (pc_q := 44) (tg_q := 50) rfl rfl rfl (fun h797 => ?_) (fun h797 => ?_)
          · have _q := h797
            refine jx_ld (pc_q := 52) (l_q := L789) (st_q := [rv (la)]) rfl (jl_rv g795) ?_
            refine jx_ld (pc_q := 54) (l_q := L789) (st_q := [rv (r750), rv (la)]) rfl (jl_rv g796) ?_
            refine cx_po (pc_q := 57) (c := 6) (q := 14) (qi := (14 : Int)) (z := r750) rfl rfl (by decide) (by decide) rfl rfl rfl (by decide) rfl ho784.1 ho784.2 rfl ?_
            obtain ⟨F798, eF798⟩ : ∃ q, q = uF F749 (la) (14 : Int) (r750) := ⟨_, rfl⟩
            rw [← eF798]
            have hC799 : HC 0 m748 tg748 ln748 F798 := by rw [eF798]; exact HC_fr (c := 6) (q := 14) (by decide) hC752 ho784.2 (by decide) rfl (Or.inr ⟨b754.1, b754.2⟩) ⟨fun w => absurd w (by decide), fun w => absurd w (by decide)⟩
            have hM800 : Fq 0 [(7, 15), (9, 2), (9, 3), (10, 0), (10, 1), (10, 2), (10, 8), (10, 9), (11, 8), (11, 12), (11, 13), (11, 14), (11, 15), (11, 16), (11, 17), (11, 18)] m tg F F798 := by rw [eF798]; exact Fq_x hM776 (Or.inr (by omega))
            have c801 : NP m748 tg748 F798 := by rw [eF798]; exact NP_nm hC752 c764 ho784.2 (Or.inl ⟨rfl, (by rw [show F749 (la) (14 : Int) = Fx (la) (14 : Int) from (show F749 (la) (14 : Int) = Fx (la) (14 : Int) from hM753 _ _ ho484.1 (own_z ho484.1) (by rw [ho484.2]; rfl))]; omega), by omega⟩)
            refine jx_ld (pc_q := 58) (l_q := L789) (st_q := [rv (me)]) rfl (jl_rvn g790) ?_
            refine cx_gr (pc_q := 61) (c := 8) (q := 2) (v := F749 (me) (2 : Int)) rfl rfl (by decide) (by decide) rfl rfl ho781.1 ho781.2 (show F798 (me) (2 : Int) = F749 (me) (2 : Int) from by rw [eF798]; exact uF_j (by decide)) ?_
            have y802 : F749 (me) (2 : Int) = 0 ∨ (own m748 (F749 (me) (2 : Int)) ∧ tg748 (F749 (me) (2 : Int)) = 7) := by have z := HC_r (c := 8) (q := 2) hC799 ho781.1 ho781.2 (by decide) rfl; rw [show F798 (me) ((2 : Nat) : Int) = F749 (me) (2 : Int) from (show F798 (me) (2 : Int) = F749 (me) (2 : Int) from by rw [eF798]; exact uF_j (by decide))] at z; exact z
            have hn803 : F749 (me) (2 : Int) ≠ 0 := by omega
            have ho804 : own m748 (F749 (me) (2 : Int)) ∧ tg748 (F749 (me) (2 : Int)) = 7 := y802.resolve_left hn803
            refine jx_ld (pc_q := 63) (l_q := jSto1 L789 4 (rv (F749 (me) (2 : Int)))) (st_q := []) rfl (js_rv (by decide)) ?_
            obtain ⟨L805, eL805⟩ : ∃ q : jL, q = jSto1 L789 4 (rv (F749 (me) (2 : Int))) := ⟨_, rfl⟩
            rw [← eL805]
            have g806 : jGet L805 0 = some (rv (me)) := eL805 ▸ jg_nr (by decide) g790
            have g807 : jGet L805 1 = some (.int (i32 (lv))) := eL805 ▸ jg_ne (by decide) g791 rfl
            have g808 : jGet L805 2 = some (rv (F (me) (2 : Int))) := eL805 ▸ jg_nr (by decide) g792
            have g809 : jGet L805 5 = some (.int (i32 (k))) := eL805 ▸ jg_ne (by decide) g793 rfl
            have g810 : jGet L805 3 = some (rv (nm)) := eL805 ▸ jg_nr (by decide) g794
            have g811 : jGet L805 6 = some (rv (r750)) := eL805 ▸ jg_nr (by decide) g796
            have g812 : jGet L805 4 = some (rv (F749 (me) (2 : Int))) := eL805 ▸ jg_eq
            clear eL805
            refine jx_ld (pc_q := 64) (l_q := L805) (st_q := [rv (me)]) rfl (jl_rvn g806) ?_
            refine jx_ld (pc_q := 65) (l_q := L805) (st_q := [.int (i32 (lv)), rv (me)]) rfl (jl_iloadn g807) ?_
            have q813 : F798 (sc) (8 : Int) = F749 (sc) (8 : Int) := (show F798 (sc) (8 : Int) = F749 (sc) (8 : Int) from by rw [eF798]; exact uF_j (by decide))
            have q814 : F798 (sc) (15 : Int) = F749 (sc) (15 : Int) := (show F798 (sc) (15 : Int) = F749 (sc) (15 : Int) from by rw [eF798]; exact uF_j (by decide))
            have q815 : tz (F798 (sc) (15 : Int)) = tz (F749 (sc) (15 : Int)) := by rw [q814]
            have q816 := tz_b (F749 (sc) (15 : Int))
            have q817 : F798 (sc) (7 : Int) = F (sc) (7 : Int) := ((show F798 (sc) (7 : Int) = F749 (sc) (7 : Int) from by rw [eF798]; exact uF_j (by decide)).trans ((show F749 (sc) (7 : Int) = Fx (sc) (7 : Int) from hM753 _ _ ho3.1 (own_z ho3.1) (by rw [ho3.2]; rfl)).trans (show Fx (sc) (7 : Int) = F (sc) (7 : Int) from hMx _ _ o_sc (own_z o_sc) (by rw [t_sc]; rfl))))
            have q818 : F798 (sc) (14 : Int) = F749 (sc) (14 : Int) := (show F798 (sc) (14 : Int) = F749 (sc) (14 : Int) from by rw [eF798]; exact uF_a (fun w => by have q1 := ho785.2; have q2 := ho784.2; rw [w, q2] at q1; exact absurd q1 (by decide)))
            have q819 : lz (F798 (sc) (14 : Int)) = lz (F749 (sc) (14 : Int)) := by rw [q818]
            have q820 := lz_b (F749 (sc) (14 : Int))
            have q821 : F798 (pg) (9 : Int) = Fx (pg) (9 : Int) := ((show F798 (pg) (9 : Int) = F749 (pg) (9 : Int) from by rw [eF798]; exact uF_j (by decide)).trans (show F749 (pg) (9 : Int) = Fx (pg) (9 : Int) from hM753 _ _ ho4.1 (own_z ho4.1) (by rw [ho4.2]; rfl)))
            refine cx_vi (c := 8) (a := me) (st := []) (as := [.int (i32 (lv))]) rfl rfl rfl ho781.1 ho781.2 (by decide) rfl ⟨rfl, rfl, (Nat.le_of_ble_eq_true rfl)⟩ rfl (k_LParser_needLevel (dd := d) (R := R) (m := m748) (tg := tg748) (ln := ln748) (F := F798) (me := me) (lv := lv) (hd := by omega) (hC := hC799) (o_me := ho781.1) (t_me := ho781.2) (h_lv := by omega) (sc := sc) (pg := pg) (o_sc := ho785.1) (t_sc := ho785.2) (e_sc := (((show F798 (me) (1 : Int) = F749 (me) (1 : Int) from by rw [eF798]; exact uF_j (by decide)).trans ((show F749 (me) (1 : Int) = Fx (me) (1 : Int) from hM753 _ _ ho2.1 (own_z ho2.1) (by rw [ho2.2]; rfl)).trans (show Fx (me) (1 : Int) = F (me) (1 : Int) from hMx _ _ o_me (own_z o_me) (by rw [t_me]; rfl)))).trans e_sc)) (o_pg := ho786.1) (t_pg := ho786.2) (e_pg := (((show F798 (me) (0 : Int) = F749 (me) (0 : Int) from by rw [eF798]; exact uF_j (by decide)).trans ((show F749 (me) (0 : Int) = Fx (me) (0 : Int) from hM753 _ _ ho2.1 (own_z ho2.1) (by rw [ho2.2]; rfl)).trans (show Fx (me) (0 : Int) = F (me) (0 : Int) from hMx _ _ o_me (own_z o_me) (by rw [t_me]; rfl)))).trans e_pg)) (p_0 := by omega) (p_1 := by omega) (p_2 := by omega) (c_NP := c801)) (fun o V_q hq => ?_)
            obtain ⟨m822, tg822, ln822, F823, rfl, rfl, hx824, hC825, hM826, p827, p828, p829, p830, p831, p832, p833, p834, p835, c836, c837, -⟩ | ⟨m838, tg838, ln838, F838, x838, rfl, rfl, hx838, hC838, hM838, ho838, ht838, p839, p840, p841, p842, c843, c844, -⟩ := hq
            rotate_left
            ·
              have c845 : NM m m838 tg838 := NM_t c788 hx838 c844
              have lm846 := hx838.1
              refine Or.inr (Or.inr (Or.inr ⟨_, _, rfl, cx_exc (c := 15) ho838 ht838 (by decide), rfl, ?_⟩))
              have q847 : F798 (sc) (8 : Int) = F749 (sc) (8 : Int) := q813
              have q848 : F798 (sc) (7 : Int) = F (sc) (7 : Int) := q817
              exact Or.inr ⟨m838, tg838, ln838, F838, x838, rfl, rfl, Ex_t hX787 hx838, hC838, Fq_t (ln := ln) (ln1 := ln748) hM800 hX787 hM838 (by decide) (Or.inl rfl), (And.intro ho838 ht838).1, (And.intro ho838 ht838).2, by omega, by omega, by omega, by omega, c843, c845, trivial⟩
            have hM849 : Fq 0 [(7, 15), (9, 2), (9, 3), (10, 0), (10, 1), (10, 2), (10, 8), (10, 9), (11, 8), (11, 12), (11, 13), (11, 14), (11, 15), (11, 16), (11, 17), (11, 18)] m tg F F823 := Fq_t (ln := ln) (ln1 := ln748) hM800 hX787 hM826 (by decide) (Or.inl rfl)
            have lm850 := hx824.1
            have lt851 : F (me) (2 : Int) < 64 + (m748 : Int) := by rcases y782 with w | w; (· omega); exact w.1.2.1
            have lt852 : nm < 64 + (m748 : Int) := by rcases y783 with w | w; (· omega); exact w.1.2.1
            have lt853 : r750 < 64 + (m748 : Int) := b754.1.2.1
            have lt854 : F749 (me) (2 : Int) < 64 + (m748 : Int) := ho804.1.2.1
            have ho855 : own m822 (me) ∧ tg822 (me) = 9 := Ex_o hx824 ⟨ho781.1, ho781.2⟩
            have y856 : F (me) (2 : Int) = 0 ∨ (own m822 (F (me) (2 : Int)) ∧ tg822 (F (me) (2 : Int)) = 7) := Ex_z hx824 y782
            have y857 : nm = 0 ∨ (own m822 (nm) ∧ tg822 (nm) = 7) := Ex_z hx824 y783
            have ho858 : own m822 (r750) ∧ tg822 (r750) = 7 := Ex_o hx824 ⟨b754.1, b754.2⟩
            have ho859 : own m822 (F749 (me) (2 : Int)) ∧ tg822 (F749 (me) (2 : Int)) = 7 := Ex_o hx824 ⟨ho804.1, ho804.2⟩
            have ho860 : own m822 (sc) ∧ tg822 (sc) = 11 := Ex_o hx824 ⟨ho785.1, ho785.2⟩
            have ho861 : own m822 (pg) ∧ tg822 (pg) = 10 := Ex_o hx824 ⟨ho786.1, ho786.2⟩
            have hX862 := Ex_t hX787 hx824
            have c863 : NM m m822 tg822 := NM_t c788 hx824 c837
            refine Or.inl ⟨rfl, ?_⟩
            refine jx_inc (pc_q := 71) (l_q := jSto1 L805 5 (.int (i32 (k + (1))))) (x := k) rfl g809 (by decide) rfl rfl ?_
            obtain ⟨L864, eL864⟩ : ∃ q : jL, q = jSto1 L805 5 (.int (i32 ((k + (1))))) := ⟨_, rfl⟩
            rw [← eL864]
            have g865 : jGet L864 0 = some (rv (me)) := eL864 ▸ jg_nr (by decide) g806
            have g866 : jGet L864 1 = some (.int (i32 (lv))) := eL864 ▸ jg_ne (by decide) g807 rfl
            have g867 : jGet L864 2 = some (rv (F (me) (2 : Int))) := eL864 ▸ jg_nr (by decide) g808
            have g868 : jGet L864 3 = some (rv (nm)) := eL864 ▸ jg_nr (by decide) g810
            have g869 : jGet L864 6 = some (rv (r750)) := eL864 ▸ jg_nr (by decide) g811
            have g870 : jGet L864 4 = some (rv (F749 (me) (2 : Int))) := eL864 ▸ jg_nr (by decide) g812
            have g871 : jGet L864 5 = some (.int (i32 ((k + (1))))) := eL864 ▸ jg_eq
            clear eL864
            refine jx_go (tg := 18) rfl rfl ?_
            have q872 : F823 (sc) (8 : Int) = F749 (sc) (8 : Int) := ((show F823 (sc) (8 : Int) = F798 (sc) (8 : Int) from hM826 _ _ ho785.1 (own_z ho785.1) (by rw [ho785.2]; rfl)).trans q813)
            have q873 : F823 (sc) (15 : Int) = F749 (sc) (15 : Int) := ((show F823 (sc) (15 : Int) = F798 (sc) (15 : Int) from hM826 _ _ ho785.1 (own_z ho785.1) (by rw [ho785.2]; rfl)).trans q814)
            have q874 : tz (F823 (sc) (15 : Int)) = tz (F749 (sc) (15 : Int)) := by rw [q873]
            have q875 := tz_b (F749 (sc) (15 : Int))
            have q876 : F823 (sc) (14 : Int) = F749 (sc) (14 : Int) := ((show F823 (sc) (14 : Int) = F798 (sc) (14 : Int) from hM826 _ _ ho785.1 (own_z ho785.1) (by rw [ho785.2]; rfl)).trans q818)
            have q877 : lz (F823 (sc) (14 : Int)) = lz (F749 (sc) (14 : Int)) := by rw [q876]
            have q878 := lz_b (F749 (sc) (14 : Int))
            have q879 : F823 (pg) (9 : Int) = Fx (pg) (9 : Int) := ((show F823 (pg) (9 : Int) = F798 (pg) (9 : Int) from hM826 _ _ ho786.1 (own_z ho786.1) (by rw [ho786.2]; rfl)).trans q821)
            have q880 : F823 (F749 (me) (2 : Int)) (14 : Int) = F749 (F749 (me) (2 : Int)) (14 : Int) := ((show F823 (F749 (me) (2 : Int)) (14 : Int) = F798 (F749 (me) (2 : Int)) (14 : Int) from hM826 _ _ ho804.1 (own_z ho804.1) (by rw [ho804.2]; rfl)).trans (show F798 (F749 (me) (2 : Int)) (14 : Int) = F749 (F749 (me) (2 : Int)) (14 : Int) from by rw [eF798]; exact uF_a (by omega)))
            exact ih _ (by omega) L864 m822 tg822 ln822 F823 ((k + (1))) (nm) (F749 (me) (2 : Int)) rfl g865 g866 g867 g871 g868 g870 hX862 hC825 hM849 (by omega) y857 (Or.inr ⟨ho859.1, ho859.2⟩) (by omega) (by omega) (by omega) (by omega) (by omega) (by omega) (by omega) (by omega) (by omega) (by omega) (by omega) (by omega) c836 c863
          · have _q := h797
            exact absurd h797 (by have := ho784.1.1; omega)
set_option maxRecDepth 20000 in
set_option maxHeartbeats 4000000 in
theorem k_LParser_process {X : jX} {kk : Nat} (hE : 1 ≤ kk → PPx X (kk - 1)) {dd : Nat} {R : Nat → jC} {m : Nat} {tg ln : Int → Int} {F : Int → Int → Int} {me lv : Int} (hd : 6 * kk + 86 ≤ dd) (hC : HC 0 m tg ln F) {sc pg : Int} (o_sc : own m sc) (t_sc : tg sc = 11) (e_sc : F me (1 : Int) = sc) (o_pg : own m pg) (t_pg : tg pg = 10) (e_pg : F me (0 : Int) = pg) (o_me : own m me) (t_me : tg me = 9) (h_lv : (-2147483648 : Int) ≤ lv ∧ lv ≤ 2147483647) (p_0 : F sc (8 : Int) + 2 * tz (F sc (15 : Int)) ≤ F sc (7 : Int) + 1) (p_1 : F sc (8 : Int) + 2 * lz (F sc (14 : Int)) ≤ F sc (7 : Int) + 1) (p_2 : 0 ≤ lv) (p_3 : 18 ≤ (kk : Int) + lv) (c_NP : NP m tg F) : wk X dd 177 [rv me, .int (i32 lv)] (cV R m tg ln F) (fun o V_q => (∃ (m_q : Nat) (tg_q ln_q : Int → Int) (F_q : Int → Int → Int) (r : Int), V_q = cV R m_q tg_q ln_q F_q ∧ o = .inl (some (rv r)) ∧ Ex m tg ln m_q tg_q ln_q ∧ HC 0 m_q tg_q ln_q F_q ∧ Fq 0 [(7, 15), (9, 2), (9, 3), (10, 0), (10, 1), (10, 2), (10, 8), (10, 9), (11, 8), (11, 12), (11, 13), (11, 14), (11, 15), (11, 16), (11, 17), (11, 18)] m tg F F_q ∧ (own m_q r ∧ tg_q r = 8) ∧ (F_q sc (8 : Int) + 2 * tz (F_q sc (15 : Int)) ≤ F sc (7 : Int) + 1) ∧ (F_q sc (8 : Int) + 2 * lz (F_q sc (14 : Int)) ≤ F sc (7 : Int) + 1) ∧ (F sc (8 : Int) ≤ F_q sc (8 : Int)) ∧ (szD m_q tg_q ln_q = szD m tg ln + 25 * ((m_q : Int) - (m : Int))) ∧ ((m_q : Int) ≤ (m : Int) + (F_q sc (8 : Int) - F sc (8 : Int)) + (0)) ∧ (F_q pg (9 : Int) ≤ F pg (9 : Int) + ((m_q : Int) - (m : Int))) ∧ (64 + (m : Int) ≤ r) ∧ (F_q r (103 : Int) = 1) ∧ (F_q r (100 : Int) = 60 - 2 * lv) ∧ (F_q r (101 : Int) = 0) ∧ (F_q r (8 : Int) = 0) ∧ (F_q me (2 : Int) = F me (2 : Int)) ∧ (NP m_q tg_q F_q) ∧ (NM m m_q tg_q) ∧ True) ∨ (∃ (m_q : Nat) (tg_q ln_q : Int → Int) (F_q : Int → Int → Int) (x : Nat), V_q = cV R m_q tg_q ln_q F_q ∧ o = .inr x ∧ Ex m tg ln m_q tg_q ln_q ∧ HC 0 m_q tg_q ln_q F_q ∧ Fq 0 [(7, 15), (9, 2), (9, 3), (10, 0), (10, 1), (10, 2), (10, 8), (10, 9), (11, 8), (11, 12), (11, 13), (11, 14), (11, 15), (11, 16), (11, 17), (11, 18)] m tg F F_q ∧ (own m_q (x : Int)) ∧ (tg_q (x : Int) = 16) ∧ (F_q pg (0 : Int) ≠ 0) ∧ (szD m_q tg_q ln_q = szD m tg ln + 25 * ((m_q : Int) - (m : Int))) ∧ ((m_q : Int) ≤ (m : Int) + (F_q sc (8 : Int) - F sc (8 : Int)) + (3)) ∧ (F_q sc (8 : Int) ≤ F sc (7 : Int) + 1) ∧ (NP m_q tg_q F_q) ∧ (NM m m_q tg_q) ∧ True)) := by
  obtain ⟨d, rfl⟩ : ∃ d, dd = d + 1 := ⟨dd - 1, by omega⟩
  refine wk_of (e := jm177) rfl (by rw [jS_r, jS_i, jS_0]; exact Nat.le_of_ble_eq_true rfl) ?_
  rw [la_r, la_i, la_0]
  show wj X d jm177 (0, [(0, rv (me)), (1, .int (i32 (lv)))], [], cV R m tg ln F) _
  have hM0 : Fq 0 [(7, 15), (9, 2), (9, 3), (10, 0), (10, 1), (10, 2), (10, 8), (10, 9), (11, 8), (11, 12), (11, 13), (11, 14), (11, 15), (11, 16), (11, 17), (11, 18)] m tg F F := Fq_r
  have hX0 : Ex m tg ln m tg ln := Ex_r
  obtain ⟨L0, eL0⟩ : ∃ q : jL, q = [(0, rv (me)), (1, .int (i32 (lv)))] := ⟨_, rfl⟩
  rw [← eL0]
  have g881 : jGet L0 0 = some (rv (me)) := eL0 ▸ (rfl : jGet [(0, rv (me)), (1, .int (i32 (lv)))] 0 = some (rv (me)))
  have g882 : jGet L0 1 = some (.int (i32 (lv))) := eL0 ▸ (rfl : jGet [(0, rv (me)), (1, .int (i32 (lv)))] 1 = some (.int (i32 (lv))))
  clear eL0
  have tb0 := tz_b (F sc (15 : Int))
  have lb0 := lz_b (F sc (14 : Int))
  have ob0 : (0 : Int) ≤ F me (3 : Int) ∧ F me (3 : Int) ≤ 8 := HC_i (c := 8) (q := 3) hC o_me t_me (by decide) rfl
  have tp0 : F me (2 : Int) < 64 + (m : Int) := by
    have z : F me (2 : Int) = 0 ∨ (own m (F me (2 : Int)) ∧ tg (F me (2 : Int)) = 7) := HC_r (c := 8) (q := 2) hC o_me t_me (by decide) rfl
    rcases z with w | w
    · omega
    · exact w.1.2.1
  refine jx_ld (pc_q := 1) (l_q := L0) (st_q := [rv (me)]) rfl (jl_rvn g881) ?_
  refine jx_ld (pc_q := 2) (l_q := L0) (st_q := [.int (i32 (lv)), rv (me)]) rfl (jl_iloadn g882) ?_
  have q883 := tz_b (F (sc) (15 : Int))
  have q884 := lz_b (F (sc) (14 : Int))
  refine cx_vi (c := 8) (a := me) (st := []) (as := [.int (i32 (lv))]) rfl rfl rfl o_me t_me (by decide) rfl ⟨rfl, rfl, (Nat.le_of_ble_eq_true rfl)⟩ rfl (k_LParser_needLevel (dd := d) (R := R) (m := m) (tg := tg) (ln := ln) (F := F) (me := me) (lv := lv) (hd := by omega) (hC := hC) (o_me := o_me) (t_me := t_me) (h_lv := by omega) (sc := sc) (pg := pg) (o_sc := o_sc) (t_sc := t_sc) (e_sc := e_sc) (o_pg := o_pg) (t_pg := t_pg) (e_pg := e_pg) (p_0 := by omega) (p_1 := by omega) (p_2 := by omega) (c_NP := c_NP)) (fun o V_q hq => ?_)
  obtain ⟨m885, tg885, ln885, F886, rfl, rfl, hx887, hC888, hM889, p890, p891, p892, p893, p894, p895, p896, p897, p898, c899, c900, -⟩ | ⟨m901, tg901, ln901, F901, x901, rfl, rfl, hx901, hC901, hM901, ho901, ht901, p902, p903, p904, p905, c906, c907, -⟩ := hq
  rotate_left
  ·
    have c908 : NM m m901 tg901 := NM_t NM_0 hx901 c907
    have lm909 := hx901.1
    refine Or.inr (Or.inr (Or.inr ⟨_, _, rfl, cx_exc (c := 15) ho901 ht901 (by decide), rfl, ?_⟩))
    exact Or.inr ⟨m901, tg901, ln901, F901, x901, rfl, rfl, Ex_t hX0 hx901, hC901, Fq_t (ln := ln) (ln1 := ln) hM0 hX0 hM901 (by decide) (Or.inl rfl), (And.intro ho901 ht901).1, (And.intro ho901 ht901).2, by omega, by omega, by omega, by omega, c906, c908, trivial⟩
  have hM910 : Fq 0 [(7, 15), (9, 2), (9, 3), (10, 0), (10, 1), (10, 2), (10, 8), (10, 9), (11, 8), (11, 12), (11, 13), (11, 14), (11, 15), (11, 16), (11, 17), (11, 18)] m tg F F886 := Fq_t (ln := ln) (ln1 := ln) hM0 hX0 hM889 (by decide) (Or.inl rfl)
  have lm911 := hx887.1
  have ho912 : own m885 (me) ∧ tg885 (me) = 9 := Ex_o hx887 ⟨o_me, t_me⟩
  have ho913 : own m885 (sc) ∧ tg885 (sc) = 11 := Ex_o hx887 ⟨o_sc, t_sc⟩
  have ho914 : own m885 (pg) ∧ tg885 (pg) = 10 := Ex_o hx887 ⟨o_pg, t_pg⟩
  have hX915 := Ex_t hX0 hx887
  have c916 : NM m m885 tg885 := NM_t NM_0 hx887 c900
  refine Or.inl ⟨rfl, ?_⟩
  refine jx_ld (pc_q := 6) (l_q := L0) (st_q := [rv (me)]) rfl (jl_rvn g881) ?_
  refine cx_gr (pc_q := 9) (c := 8) (q := 2) (v := F (me) (2 : Int)) rfl rfl (by decide) (by decide) rfl rfl ho912.1 ho912.2 (show F886 (me) (2 : Int) = F (me) (2 : Int) from hM889 _ _ o_me (own_z o_me) (by rw [t_me]; rfl)) ?_
  have y917 : F (me) (2 : Int) = 0 ∨ (own m885 (F (me) (2 : Int)) ∧ tg885 (F (me) (2 : Int)) = 7) := by have z := HC_r (c := 8) (q := 2) hC888 ho912.1 ho912.2 (by decide) rfl; rw [show F886 (me) ((2 : Nat) : Int) = F (me) (2 : Int) from (show F886 (me) (2 : Int) = F (me) (2 : Int) from hM889 _ _ o_me (own_z o_me) (by rw [t_me]; rfl))] at z; exact z
  refine jx_ld (pc_q := 10) (l_q := jSto1 L0 2 (rv (F (me) (2 : Int)))) (st_q := []) rfl (js_rvn (by decide)) ?_
  obtain ⟨L918, eL918⟩ : ∃ q : jL, q = jSto1 L0 2 (rv (F (me) (2 : Int))) := ⟨_, rfl⟩
  rw [← eL918]
  have g919 : jGet L918 0 = some (rv (me)) := eL918 ▸ jg_nr (by decide) g881
  have g920 : jGet L918 1 = some (.int (i32 (lv))) := eL918 ▸ jg_ne (by decide) g882 rfl
  have g921 : jGet L918 2 = some (rv (F (me) (2 : Int))) := eL918 ▸ jg_eq
  clear eL918
  refine jx_ar (pc_q := 11) (st_q := .null :: []) rfl rfl rfl rfl ?_
  rw [← rv_0]
  refine jx_ld (pc_q := 12) (l_q := jSto1 L918 3 (rv (0))) (st_q := []) rfl (js_rvn (by decide)) ?_
  obtain ⟨L922, eL922⟩ : ∃ q : jL, q = jSto1 L918 3 (rv (0)) := ⟨_, rfl⟩
  rw [← eL922]
  have g923 : jGet L922 0 = some (rv (me)) := eL922 ▸ jg_nr (by decide) g919
  have g924 : jGet L922 1 = some (.int (i32 (lv))) := eL922 ▸ jg_ne (by decide) g920 rfl
  have g925 : jGet L922 2 = some (rv (F (me) (2 : Int))) := eL922 ▸ jg_nr (by decide) g921
  have g926 : jGet L922 3 = some (rv (0)) := eL922 ▸ jg_eq
  clear eL922
  refine jx_ar (pc_q := 13) (st_q := .null :: []) rfl rfl rfl rfl ?_
  rw [← rv_0]
  refine jx_ld (pc_q := 15) (l_q := jSto1 L922 4 (rv (0))) (st_q := []) rfl (js_rv (by decide)) ?_
  obtain ⟨L927, eL927⟩ : ∃ q : jL, q = jSto1 L922 4 (rv (0)) := ⟨_, rfl⟩
  rw [← eL927]
  have g928 : jGet L927 0 = some (rv (me)) := eL927 ▸ jg_nr (by decide) g923
  have g929 : jGet L927 1 = some (.int (i32 (lv))) := eL927 ▸ jg_ne (by decide) g924 rfl
  have g930 : jGet L927 2 = some (rv (F (me) (2 : Int))) := eL927 ▸ jg_nr (by decide) g925
  have g931 : jGet L927 3 = some (rv (0)) := eL927 ▸ jg_nr (by decide) g926
  have g932 : jGet L927 4 = some (rv (0)) := eL927 ▸ jg_eq
  clear eL927
  refine jx_ar (pc_q := 16) (st_q := [.int (i32 (0))]) rfl rfl rfl rfl ?_
  refine jx_ld (pc_q := 18) (l_q := jSto1 L927 5 (.int (i32 (0)))) (st_q := []) rfl rfl ?_
  obtain ⟨L933, eL933⟩ : ∃ q : jL, q = jSto1 L927 5 (.int (i32 (0))) := ⟨_, rfl⟩
  rw [← eL933]
  have g934 : jGet L933 0 = some (rv (me)) := eL933 ▸ jg_nr (by decide) g928
  have g935 : jGet L933 1 = some (.int (i32 (lv))) := eL933 ▸ jg_ne (by decide) g929 rfl
  have g936 : jGet L933 2 = some (rv (F (me) (2 : Int))) := eL933 ▸ jg_nr (by decide) g930
  have g937 : jGet L933 3 = some (rv (0)) := eL933 ▸ jg_nr (by decide) g931
  have g938 : jGet L933 4 = some (rv (0)) := eL933 ▸ jg_nr (by decide) g932
  have g939 : jGet L933 5 = some (.int (i32 (0))) := eL933 ▸ jg_eq
  clear eL933
  have q940 : F886 (sc) (8 : Int) = F (sc) (8 : Int) := (show F886 (sc) (8 : Int) = F (sc) (8 : Int) from hM889 _ _ o_sc (own_z o_sc) (by rw [t_sc]; rfl))
  have q941 : F886 (sc) (15 : Int) = F (sc) (15 : Int) := (show F886 (sc) (15 : Int) = F (sc) (15 : Int) from hM889 _ _ o_sc (own_z o_sc) (by rw [t_sc]; rfl))
  have q942 : tz (F886 (sc) (15 : Int)) = tz (F (sc) (15 : Int)) := by rw [q941]
  have q943 := tz_b (F (sc) (15 : Int))
  have q944 : F886 (sc) (14 : Int) = F (sc) (14 : Int) := (show F886 (sc) (14 : Int) = F (sc) (14 : Int) from hM889 _ _ o_sc (own_z o_sc) (by rw [t_sc]; rfl))
  have q945 : lz (F886 (sc) (14 : Int)) = lz (F (sc) (14 : Int)) := by rw [q944]
  have q946 := lz_b (F (sc) (14 : Int))
  have q947 : F886 (pg) (9 : Int) = F (pg) (9 : Int) := (show F886 (pg) (9 : Int) = F (pg) (9 : Int) from hM889 _ _ o_pg (own_z o_pg) (by rw [t_pg]; rfl))
  exact k_LParser_process_at_18 (X := X) (kk := kk) (hE := hE) (d := d) (R := R) (m := m) (tg := tg) (ln := ln) (F := F) (me := me) (lv := lv) (hd := hd) (hC := hC) (sc := sc) (pg := pg) (o_sc := o_sc) (t_sc := t_sc) (e_sc := e_sc) (o_pg := o_pg) (t_pg := t_pg) (e_pg := e_pg) (o_me := o_me) (t_me := t_me) (h_lv := h_lv) (p_0 := p_0) (p_1 := p_1) (p_2 := p_2) (p_3 := p_3) (c_NP := c_NP) _ L933 m885 tg885 ln885 F886 (0) (0) (0) rfl g934 g935 g936 g939 g937 g938 hX915 hC888 hM910 (by omega) (Or.inl rfl) (Or.inl rfl) (by omega) (by omega) (by omega) (by omega) (by omega) (by omega) (by omega) (by omega) (by omega) (by omega) (by omega) (by omega) c899 c916
theorem PPx_all (X : jX) : ∀ k, PPx X k
  | 0 => @k_LParser_process X 0 (fun h => absurd h (by decide))
  | k + 1 => @k_LParser_process X (k + 1) (fun _ => PPx_all X k)
