set_option maxRecDepth 20000 in
set_option maxHeartbeats 4000000 in
theorem k_LParser_readArguments_at_184 {X : jX} {d : Nat} {R : Nat → jC} {m : Nat} {tg ln : Int → Int} {F : Int → Int → Int} {me cl : Int} (hd : 62 ≤ d + 1) (hC : HC 0 m tg ln F) {sc pg : Int} (o_sc : own m sc) (t_sc : tg sc = 11) (e_sc : F me (1 : Int) = sc) (o_pg : own m pg) (t_pg : tg pg = 10) (e_pg : F me (0 : Int) = pg) (o_me : own m me) (t_me : tg me = 9) (o_cl : own m cl) (t_cl : tg cl = 8) {nm : Int} (o_nm : own m nm) (t_nm : tg nm = 7) (p_0 : F sc (8 : Int) + 2 * tz (F sc (15 : Int)) ≤ F sc (7 : Int) + 1) (p_1 : F sc (8 : Int) + 2 * lz (F sc (14 : Int)) ≤ F sc (7 : Int) + 1) (p_2 : F sc (8 : Int) ≤ F sc (7 : Int)) (p_3 : tz (F sc (15 : Int)) = 1) (p_4 : F cl (0 : Int) = 5) (p_5 : F cl (3 : Int) = nm) (p_6 : F cl (5 : Int) = 0) (p_7 : F cl (6 : Int) = 0) (p_8 : F cl (7 : Int) = 0) (p_9 : F cl (8 : Int) = 0) (p_10 : F cl (101 : Int) = 0) (p_11 : F cl (103 : Int) = 0) (c_NP : NP m tg F) (mm0 : Nat) (ih : ∀ (mm : Nat), mm < mm0 → ∀ (L : jL) (mx : Nat) (tgx lnx : Int → Int) (Fx : Int → Int → Int) (la pa : Int), (mz m pa).toNat = mm → jGet L 0 = some (rv (me)) → jGet L 1 = some (rv (cl)) → jGet L 2 = some (rv la) → jGet L 3 = some (rv pa) → Ex m tg ln mx tgx lnx → HC 0 mx tgx lnx Fx → Fq cl [(9, 3), (10, 0), (10, 1), (10, 2), (10, 9), (11, 8), (11, 12), (11, 13), (11, 14), (11, 15), (11, 16), (11, 17), (11, 18)] m tg F Fx → (la = 0 ∨ (own mx la ∧ tgx la = 8)) → (pa = 0 ∨ (own mx pa ∧ tgx pa = 7)) → (Fx sc (8 : Int) + 2 * tz (Fx sc (15 : Int)) ≤ F sc (7 : Int) + 1) → (Fx sc (8 : Int) + 2 * lz (Fx sc (14 : Int)) ≤ F sc (7 : Int) + 1) → (Fx sc (8 : Int) ≤ F sc (7 : Int)) → (Fx pg (9 : Int) ≤ F pg (9 : Int) + ((mx : Int) - (m : Int))) → (F sc (8 : Int) ≤ Fx sc (8 : Int)) → (szD mx tgx lnx = szD m tg ln + 25 * ((mx : Int) - (m : Int))) → ((mx : Int) ≤ (m : Int) + (Fx sc (8 : Int) - F sc (8 : Int)) + (-1)) → (Fx me (3 : Int) = F me (3 : Int) + 1) → (Fx cl (0 : Int) = 5) → (Fx cl (3 : Int) = nm) → (la ≠ 0 ∨ pa = F nm (13 : Int)) → (la = 0 ∨ (64 + (m : Int) ≤ la ∧ Fx la (103 : Int) = 1 ∧ Fx la (100 : Int) = 20 ∧ Fx la (101 : Int) ≠ 0)) → (pa = 0 ∨ (own m pa ∧ tg pa = 7)) → (la = 0 ∨ (own m (Fx la (101 : Int)) ∧ tg (Fx la (101 : Int)) = 7 ∧ F (Fx la (101 : Int)) (14 : Int) = pa)) → (NP mx tgx Fx) → (NM m mx tgx) → (WK Fx cl (21)) → wj X d jm191 (19, L, [], cV R mx tgx lnx Fx) (fun o V_q => (∃ (m_q : Nat) (tg_q ln_q : Int → Int) (F_q : Int → Int → Int), V_q = cV R m_q tg_q ln_q F_q ∧ o = .inl none ∧ Ex m tg ln m_q tg_q ln_q ∧ HC 0 m_q tg_q ln_q F_q ∧ Fq cl [(9, 3), (10, 0), (10, 1), (10, 2), (10, 9), (11, 8), (11, 12), (11, 13), (11, 14), (11, 15), (11, 16), (11, 17), (11, 18)] m tg F F_q ∧ (F_q sc (8 : Int) + 2 * tz (F_q sc (15 : Int)) ≤ F sc (7 : Int) + 1) ∧ (F_q sc (8 : Int) + 2 * lz (F_q sc (14 : Int)) ≤ F sc (7 : Int) + 1) ∧ (F_q sc (8 : Int) ≤ F sc (7 : Int)) ∧ (F sc (8 : Int) ≤ F_q sc (8 : Int)) ∧ (szD m_q tg_q ln_q = szD m tg ln + 25 * ((m_q : Int) - (m : Int))) ∧ ((m_q : Int) ≤ (m : Int) + (F_q sc (8 : Int) - F sc (8 : Int)) + (-1)) ∧ (F_q pg (9 : Int) ≤ F pg (9 : Int) + ((m_q : Int) - (m : Int))) ∧ (WK F_q cl (21)) ∧ (F_q me (3 : Int) = F me (3 : Int)) ∧ (NP m_q tg_q F_q) ∧ (NM m m_q tg_q) ∧ True) ∨ (∃ (m_q : Nat) (tg_q ln_q : Int → Int) (F_q : Int → Int → Int) (x : Nat), V_q = cV R m_q tg_q ln_q F_q ∧ o = .inr x ∧ Ex m tg ln m_q tg_q ln_q ∧ HC 0 m_q tg_q ln_q F_q ∧ Fq cl [(9, 3), (10, 0), (10, 1), (10, 2), (10, 9), (11, 8), (11, 12), (11, 13), (11, 14), (11, 15), (11, 16), (11, 17), (11, 18)] m tg F F_q ∧ (own m_q (x : Int)) ∧ (tg_q (x : Int) = 16) ∧ (F_q pg (0 : Int) ≠ 0) ∧ (szD m_q tg_q ln_q = szD m tg ln + 25 * ((m_q : Int) - (m : Int))) ∧ ((m_q : Int) ≤ (m : Int) + (F_q sc (8 : Int) - F sc (8 : Int)) + (1)) ∧ (F_q sc (8 : Int) ≤ F sc (7 : Int) + 1) ∧ (NP m_q tg_q F_q) ∧ (NM m m_q tg_q) ∧ True))) : ∀ (L : jL) (mx : Nat) (tgx lnx : Int → Int) (Fx : Int → Int → Int) (la pa ag : Int), (mz m pa).toNat = mm0 → jGet L 0 = some (rv (me)) → jGet L 1 = some (rv (cl)) → jGet L 2 = some (rv la) → jGet L 3 = some (rv pa) → jGet L 5 = some (rv ag) → Ex m tg ln mx tgx lnx → HC 0 mx tgx lnx Fx → Fq cl [(9, 3), (10, 0), (10, 1), (10, 2), (10, 9), (11, 8), (11, 12), (11, 13), (11, 14), (11, 15), (11, 16), (11, 17), (11, 18)] m tg F Fx → (la = 0 ∨ (own mx la ∧ tgx la = 8)) → (pa = 0 ∨ (own mx pa ∧ tgx pa = 7)) → (ag = 0 ∨ (own mx ag ∧ tgx ag = 8)) → (Fx sc (8 : Int) + 2 * tz (Fx sc (15 : Int)) ≤ F sc (7 : Int) + 1) → (Fx sc (8 : Int) + 2 * lz (Fx sc (14 : Int)) ≤ F sc (7 : Int) + 1) → (Fx sc (8 : Int) ≤ F sc (7 : Int)) → (Fx pg (9 : Int) ≤ F pg (9 : Int) + ((mx : Int) - (m : Int))) → (F sc (8 : Int) ≤ Fx sc (8 : Int)) → (szD mx tgx lnx = szD m tg ln + 25 * ((mx : Int) - (m : Int))) → ((mx : Int) ≤ (m : Int) + (Fx sc (8 : Int) - F sc (8 : Int)) + (-1)) → (Fx me (3 : Int) = F me (3 : Int) + 1) → (Fx cl (0 : Int) = 5) → (Fx cl (3 : Int) = nm) → (la ≠ 0 ∨ pa = F nm (13 : Int)) → (la = 0 ∨ (64 + (m : Int) ≤ la ∧ Fx la (103 : Int) = 1 ∧ Fx la (100 : Int) = 20 ∧ Fx la (101 : Int) ≠ 0)) → (pa = 0 ∨ (own m pa ∧ tg pa = 7)) → (la = 0 ∨ (own m (Fx la (101 : Int)) ∧ tg (Fx la (101 : Int)) = 7 ∧ F (Fx la (101 : Int)) (14 : Int) = pa)) → (pa ≠ 0) → (64 + (m : Int) ≤ ag) → (la < ag) → (F pa (0 : Int) = 1 ∨ Fx ag (3 : Int) ≠ 0) → (NP mx tgx Fx) → (NM m mx tgx) → (WK Fx cl (21)) → (WK Fx ag (20)) → wj X d jm191 (184, L, [], cV R mx tgx lnx Fx) (fun o V_q => (∃ (m_q : Nat) (tg_q ln_q : Int → Int) (F_q : Int → Int → Int), V_q = cV R m_q tg_q ln_q F_q ∧ o = .inl none ∧ Ex m tg ln m_q tg_q ln_q ∧ HC 0 m_q tg_q ln_q F_q ∧ Fq cl [(9, 3), (10, 0), (10, 1), (10, 2), (10, 9), (11, 8), (11, 12), (11, 13), (11, 14), (11, 15), (11, 16), (11, 17), (11, 18)] m tg F F_q ∧ (F_q sc (8 : Int) + 2 * tz (F_q sc (15 : Int)) ≤ F sc (7 : Int) + 1) ∧ (F_q sc (8 : Int) + 2 * lz (F_q sc (14 : Int)) ≤ F sc (7 : Int) + 1) ∧ (F_q sc (8 : Int) ≤ F sc (7 : Int)) ∧ (F sc (8 : Int) ≤ F_q sc (8 : Int)) ∧ (szD m_q tg_q ln_q = szD m tg ln + 25 * ((m_q : Int) - (m : Int))) ∧ ((m_q : Int) ≤ (m : Int) + (F_q sc (8 : Int) - F sc (8 : Int)) + (-1)) ∧ (F_q pg (9 : Int) ≤ F pg (9 : Int) + ((m_q : Int) - (m : Int))) ∧ (WK F_q cl (21)) ∧ (F_q me (3 : Int) = F me (3 : Int)) ∧ (NP m_q tg_q F_q) ∧ (NM m m_q tg_q) ∧ True) ∨ (∃ (m_q : Nat) (tg_q ln_q : Int → Int) (F_q : Int → Int → Int) (x : Nat), V_q = cV R m_q tg_q ln_q F_q ∧ o = .inr x ∧ Ex m tg ln m_q tg_q ln_q ∧ HC 0 m_q tg_q ln_q F_q ∧ Fq cl [(9, 3), (10, 0), (10, 1), (10, 2), (10, 9), (11, 8), (11, 12), (11, 13), (11, 14), (11, 15), (11, 16), (11, 17), (11, 18)] m tg F F_q ∧ (own m_q (x : Int)) ∧ (tg_q (x : Int) = 16) ∧ (F_q pg (0 : Int) ≠ 0) ∧ (szD m_q tg_q ln_q = szD m tg ln + 25 * ((m_q : Int) - (m : Int))) ∧ ((m_q : Int) ≤ (m : Int) + (F_q sc (8 : Int) - F sc (8 : Int)) + (1)) ∧ (F_q sc (8 : Int) ≤ F sc (7 : Int) + 1) ∧ (NP m_q tg_q F_q) ∧ (NM m m_q tg_q) ∧ True)) := by
  intro L mx tgx lnx Fx la pa ag hmm gL_0 gL_1 gL_2 gL_3 gL_5 hXx hCx hMx yx_la yx_pa yx_ag iv_0 iv_1 iv_2 iv_3 iv_4 iv_5 iv_6 iv_7 iv_8 iv_9 iv_10 iv_11 iv_12 iv_13 iv_14 iv_15 iv_16 iv_17 cx_NP cx_NM wx_cl wx_ag
  have hX0 : Ex m tg ln m tg ln := Ex_r
  have lm1 := hXx.1
  have lt2 : cl < 64 + (m : Int) := o_cl.2.1
  have lt3 : nm < 64 + (m : Int) := o_nm.2.1
  have ho4 : own mx (me) ∧ tgx (me) = 9 := Ex_o hXx ⟨o_me, t_me⟩
  have ho5 : own mx (cl) ∧ tgx (cl) = 8 := Ex_o hXx ⟨o_cl, t_cl⟩
  have ho6 : own mx (sc) ∧ tgx (sc) = 11 := Ex_o hXx ⟨o_sc, t_sc⟩
  have ho7 : own mx (pg) ∧ tgx (pg) = 10 := Ex_o hXx ⟨o_pg, t_pg⟩
  have ho8 : own mx (nm) ∧ tgx (nm) = 7 := Ex_o hXx ⟨o_nm, t_nm⟩
  have hX9 := Ex_t hX0 hXx
  have hz10 : pa ≠ 0 := by omega
  have ho11 : own mx (pa) ∧ tgx (pa) = 7 := yx_pa.resolve_left hz10
  have hz12 : ag ≠ 0 := by omega
  have ho13 : own mx (ag) ∧ tgx (ag) = 8 := yx_ag.resolve_left hz12
  have tb0 := tz_b (F sc (15 : Int))
  have lb0 := lz_b (F sc (14 : Int))
  have tb1 := tz_b (Fx sc (15 : Int))
  have lb1 := lz_b (Fx sc (14 : Int))
  have ob0 : (0 : Int) ≤ F me (3 : Int) ∧ F me (3 : Int) ≤ 8 := HC_i (c := 8) (q := 3) hC o_me t_me (by decide) rfl
  have tp0 : F me (2 : Int) < 64 + (m : Int) := by
    have z : F me (2 : Int) = 0 ∨ (own m (F me (2 : Int)) ∧ tg (F me (2 : Int)) = 7) := HC_r (c := 8) (q := 2) hC o_me t_me (by decide) rfl
    rcases z with w | w
    · omega
    · exact w.1.2.1
  have nz_cl := own_z o_cl
  have q14 := wx_cl.1
  have q15 := wx_cl.2.1
  have q16 := wx_cl.2.2.1
  have q17 := wx_ag.1
  have q18 := wx_ag.2.1
  have q19 := wx_ag.2.2.1
  have pq := iv_12.resolve_left (by omega)
  have pz := mz_a hC c_NP.1 pq.1 pq.2
  refine jx_ld (pc_q := 185) (l_q := L) (st_q := [rv (cl)]) rfl (jl_rvn gL_1) ?_
  refine jx_ld (pc_q := 186) (l_q := L) (st_q := [rv (la), rv (cl)]) rfl (jl_rvn gL_2) ?_
  refine jx_ld (pc_q := 188) (l_q := L) (st_q := [rv (ag), rv (la), rv (cl)]) rfl (jl_rv gL_5) ?_
  have q20 := wx_ag.1
  have q21 := wx_ag.2.1
  have q22 := wx_ag.2.2.1
  rw [← cV_gh (F := Fx) (a := ag) (j := 101) (z := pa) (Or.inr ⟨by decide, by rw [ho13.2]; decide⟩)]
  obtain ⟨F23, eF23⟩ : ∃ q, q = uF Fx (ag) (101 : Int) (pa) := ⟨_, rfl⟩
  rw [← eF23]
  have hC24 : HC 0 mx tgx lnx F23 := by rw [eF23]; exact HC_gh hCx (by rw [ho13.2]; decide) (by decide)
  have hM25 : Fq cl [(9, 3), (10, 0), (10, 1), (10, 2), (10, 9), (11, 8), (11, 12), (11, 13), (11, 14), (11, 15), (11, 16), (11, 17), (11, 18)] m tg F F23 := by rw [eF23]; exact Fq_x hMx (Or.inr (by omega))
  have w26 : WK F23 cl (21) := by rw [eF23]; exact WK_un wx_cl hCx ho5.1 ho5.2 ho13.2 (by omega) (by omega)
  rw [← cV_gh (F := F23) (a := ag) (j := 100) (z := 20) (Or.inr ⟨by decide, by rw [ho13.2]; decide⟩)]
  obtain ⟨F27, eF27⟩ : ∃ q, q = uF F23 (ag) (100 : Int) (20) := ⟨_, rfl⟩
  rw [← eF27]
  have hC28 : HC 0 mx tgx lnx F27 := by rw [eF27]; exact HC_gh hC24 (by rw [ho13.2]; decide) (by decide)
  have hM29 : Fq cl [(9, 3), (10, 0), (10, 1), (10, 2), (10, 9), (11, 8), (11, 12), (11, 13), (11, 14), (11, 15), (11, 16), (11, 17), (11, 18)] m tg F F27 := by rw [eF27]; exact Fq_x hM25 (Or.inr (by omega))
  have w30 : WK F27 cl (21) := by rw [eF27]; exact WK_un w26 hC24 ho5.1 ho5.2 ho13.2 (by rw [show F23 (ag) (103 : Int) = Fx (ag) (103 : Int) from (show F23 (ag) (103 : Int) = Fx (ag) (103 : Int) from by rw [eF23]; exact uF_j (by decide))]; omega) (by omega)
  rw [← cV_gh (F := F27) (a := ag) (j := 103) (z := 1) (Or.inr ⟨by decide, by rw [ho13.2]; decide⟩)]
  obtain ⟨F31, eF31⟩ : ∃ q, q = uF F27 (ag) (103 : Int) (1) := ⟨_, rfl⟩
  rw [← eF31]
  have hC32 : HC 0 mx tgx lnx F31 := by rw [eF31]; exact HC_gh hC28 (by rw [ho13.2]; decide) (by decide)
  have hM33 : Fq cl [(9, 3), (10, 0), (10, 1), (10, 2), (10, 9), (11, 8), (11, 12), (11, 13), (11, 14), (11, 15), (11, 16), (11, 17), (11, 18)] m tg F F31 := by rw [eF31]; exact Fq_x hM29 (Or.inr (by omega))
  have w34 : WK F31 cl (21) := by rw [eF31]; exact WK_un w30 hC28 ho5.1 ho5.2 ho13.2 (by rw [show F27 (ag) (103 : Int) = Fx (ag) (103 : Int) from ((show F27 (ag) (103 : Int) = F23 (ag) (103 : Int) from by rw [eF27]; exact uF_j (by decide)).trans (show F23 (ag) (103 : Int) = Fx (ag) (103 : Int) from by rw [eF23]; exact uF_j (by decide)))]; omega) (by omega)
  have c35 : NP mx tgx F31 := by rw [eF31, eF27, eF23]; exact NP_seala hCx cx_NP ho13.1 ho13.2 wx_ag (by omega) ho11.1 ho11.2 (fun w => by rw [show Fx (pa) (0 : Int) = F (pa) (0 : Int) from (show Fx (pa) (0 : Int) = F (pa) (0 : Int) from hMx _ _ pq.1 (fun w => by have q1 := ho11.2; rw [w, ho5.2] at q1; exact absurd q1 (by decide)) (by rw [pq.2]; rfl))] at w; omega)
  refine cx_st (st := []) (as := [rv (cl), rv (la), rv (ag)]) rfl rfl rfl ⟨rfl, (Nat.le_of_ble_eq_true rfl)⟩ rfl (k_LParser_append (dd := d) (R := R) (m := mx) (tg := tgx) (ln := lnx) (F := F31) (p := cl) (la := la) (ch := ag) (hd := by omega) (hC := hC32) (o_p := ho5.1) (t_p := ho5.2) (y_la := yx_la) (o_ch := ho13.1) (t_ch := ho13.2)) (fun o V_q hq => ?_)
  obtain ⟨z36, hz36, rfl, hq⟩ := hq
  rcases hq with ⟨hlz36, rfl⟩ | ⟨hlz36, rfl⟩
  · have _q := hlz36
    refine Or.inr (Or.inl ⟨_, rfl, ?_⟩)
    obtain ⟨F37, eF37⟩ : ∃ q, q = uF F31 (cl) (4 : Int) (ag) := ⟨_, rfl⟩
    rw [← eF37]
    have hC38 : HC 0 mx tgx lnx F37 := by rw [eF37]; exact HC_fr (c := 7) (q := 4) (by decide) hC32 ho5.2 (by decide) rfl (Or.inr ⟨ho13.1, ho13.2⟩) ⟨fun w => absurd w (by decide), fun w => absurd w (by decide)⟩
    have hM39 : Fq cl [(9, 3), (10, 0), (10, 1), (10, 2), (10, 9), (11, 8), (11, 12), (11, 13), (11, 14), (11, 15), (11, 16), (11, 17), (11, 18)] m tg F F37 := by rw [eF37]; exact Fq_x hM33 (Or.inl rfl)
    have w40 : WK F37 cl (21) := by rw [eF37]; exact WK_s5 w34 (show F31 (ag) (103 : Int) = 1 from by rw [eF31]; exact uF_e) (by rw [show F31 (ag) (100 : Int) = 20 from ((show F31 (ag) (100 : Int) = F27 (ag) (100 : Int) from by rw [eF31]; exact uF_j (by decide)).trans (show F27 (ag) (100 : Int) = 20 from by rw [eF27]; exact uF_e))]; omega) (by rw [show F31 (ag) (100 : Int) = 20 from ((show F31 (ag) (100 : Int) = F27 (ag) (100 : Int) from by rw [eF31]; exact uF_j (by decide)).trans (show F27 (ag) (100 : Int) = 20 from by rw [eF27]; exact uF_e))]; omega) (by rw [show F31 (cl) (3 : Int) = nm from (((show F31 (cl) (3 : Int) = F27 (cl) (3 : Int) from by rw [eF31]; exact uF_j (by decide)).trans ((show F27 (cl) (3 : Int) = F23 (cl) (3 : Int) from by rw [eF27]; exact uF_j (by decide)).trans (show F23 (cl) (3 : Int) = Fx (cl) (3 : Int) from by rw [eF23]; exact uF_j (by decide)))).trans iv_9), show F31 (ag) (101 : Int) = pa from ((show F31 (ag) (101 : Int) = F27 (ag) (101 : Int) from by rw [eF31]; exact uF_j (by decide)).trans ((show F27 (ag) (101 : Int) = F23 (ag) (101 : Int) from by rw [eF27]; exact uF_j (by decide)).trans (show F23 (ag) (101 : Int) = pa from by rw [eF23]; exact uF_e))), show F31 (nm) (13 : Int) = F (nm) (13 : Int) from ((show F31 (nm) (13 : Int) = F27 (nm) (13 : Int) from by rw [eF31]; exact uF_j (by decide)).trans ((show F27 (nm) (13 : Int) = F23 (nm) (13 : Int) from by rw [eF27]; exact uF_j (by decide)).trans ((show F23 (nm) (13 : Int) = Fx (nm) (13 : Int) from by rw [eF23]; exact uF_j (by decide)).trans (show Fx (nm) (13 : Int) = F (nm) (13 : Int) from hMx _ _ o_nm (fun w => by have q1 := ho8.2; rw [w, ho5.2] at q1; exact absurd q1 (by decide)) (by rw [t_nm]; rfl)))))]; exact ⟨by omega, by omega⟩)
    have c41 : NP mx tgx F37 := by rw [eF37]; exact NP_un hC32 c35 ho5.1 ho5.2 (by rw [show F31 (cl) (103 : Int) = Fx (cl) (103 : Int) from ((show F31 (cl) (103 : Int) = F27 (cl) (103 : Int) from by rw [eF31]; exact uF_a (by omega)).trans ((show F27 (cl) (103 : Int) = F23 (cl) (103 : Int) from by rw [eF27]; exact uF_j (by decide)).trans (show F23 (cl) (103 : Int) = Fx (cl) (103 : Int) from by rw [eF23]; exact uF_j (by decide))))]; omega) (by decide) (Or.inl (by decide))
    obtain ⟨F42, eF42⟩ : ∃ q, q = uF F37 (cl) (2 : Int) (z36) := ⟨_, rfl⟩
    rw [← eF42]
    have hC43 : HC 0 mx tgx lnx F42 := by rw [eF42]; exact HC_fi (c := 7) (q := 2) hC38 ho5.2 (by decide) rfl (by omega) (by omega) ⟨fun w => absurd w (by decide), fun w => absurd w (by decide)⟩
    have hM44 : Fq cl [(9, 3), (10, 0), (10, 1), (10, 2), (10, 9), (11, 8), (11, 12), (11, 13), (11, 14), (11, 15), (11, 16), (11, 17), (11, 18)] m tg F F42 := by rw [eF42]; exact Fq_x hM39 (Or.inl rfl)
    have w45 : WK F42 cl (21) := by rw [eF42]; exact WK_o w40 (by decide)
    have c46 : NP mx tgx F42 := by rw [eF42]; exact NP_un hC38 c41 ho5.1 ho5.2 (by rw [show F37 (cl) (103 : Int) = Fx (cl) (103 : Int) from ((show F37 (cl) (103 : Int) = F31 (cl) (103 : Int) from by rw [eF37]; exact uF_j (by decide)).trans ((show F31 (cl) (103 : Int) = F27 (cl) (103 : Int) from by rw [eF31]; exact uF_a (by omega)).trans ((show F27 (cl) (103 : Int) = F23 (cl) (103 : Int) from by rw [eF27]; exact uF_j (by decide)).trans (show F23 (cl) (103 : Int) = Fx (cl) (103 : Int) from by rw [eF23]; exact uF_j (by decide)))))]; omega) (by decide) (Or.inl (by decide))
    refine jx_ld (pc_q := 192) (l_q := jSto1 L 2 (rv (ag))) (st_q := []) rfl (js_rvn (by decide)) ?_
    obtain ⟨L47, eL47⟩ : ∃ q : jL, q = jSto1 L 2 (rv (ag)) := ⟨_, rfl⟩
    rw [← eL47]
    have g48 : jGet L47 0 = some (rv (me)) := eL47 ▸ jg_nr (by decide) gL_0
    have g49 : jGet L47 1 = some (rv (cl)) := eL47 ▸ jg_nr (by decide) gL_1
    have g50 : jGet L47 3 = some (rv (pa)) := eL47 ▸ jg_nr (by decide) gL_3
    have g51 : jGet L47 5 = some (rv (ag)) := eL47 ▸ jg_nr (by decide) gL_5
    have g52 : jGet L47 2 = some (rv (ag)) := eL47 ▸ jg_eq
    clear eL47
    refine jx_ld (pc_q := 193) (l_q := L47) (st_q := [rv (pa)]) rfl (jl_rvn g50) ?_
    refine cx_gr (pc_q := 196) (c := 6) (q := 14) (v := F (pa) (14 : Int)) rfl rfl (by decide) (by decide) rfl rfl ho11.1 ho11.2 ((show F42 (pa) (14 : Int) = F37 (pa) (14 : Int) from by rw [eF42]; exact uF_j (by decide)).trans ((show F37 (pa) (14 : Int) = F31 (pa) (14 : Int) from by rw [eF37]; exact uF_j (by decide)).trans ((show F31 (pa) (14 : Int) = F27 (pa) (14 : Int) from by rw [eF31]; exact uF_j (by decide)).trans ((show F27 (pa) (14 : Int) = F23 (pa) (14 : Int) from by rw [eF27]; exact uF_j (by decide)).trans ((show F23 (pa) (14 : Int) = Fx (pa) (14 : Int) from by rw [eF23]; exact uF_j (by decide)).trans (show Fx (pa) (14 : Int) = F (pa) (14 : Int) from hMx _ _ pq.1 (fun w => by have q1 := ho11.2; rw [w, ho5.2] at q1; exact absurd q1 (by decide)) (by rw [pq.2]; rfl))))))) ?_
    have y53 : F (pa) (14 : Int) = 0 ∨ (own mx (F (pa) (14 : Int)) ∧ tgx (F (pa) (14 : Int)) = 7) := by have z := HC_r (c := 6) (q := 14) hC43 ho11.1 ho11.2 (by decide) rfl; rw [show F42 (pa) ((14 : Nat) : Int) = F (pa) (14 : Int) from ((show F42 (pa) (14 : Int) = F37 (pa) (14 : Int) from by rw [eF42]; exact uF_j (by decide)).trans ((show F37 (pa) (14 : Int) = F31 (pa) (14 : Int) from by rw [eF37]; exact uF_j (by decide)).trans ((show F31 (pa) (14 : Int) = F27 (pa) (14 : Int) from by rw [eF31]; exact uF_j (by decide)).trans ((show F27 (pa) (14 : Int) = F23 (pa) (14 : Int) from by rw [eF27]; exact uF_j (by decide)).trans ((show F23 (pa) (14 : Int) = Fx (pa) (14 : Int) from by rw [eF23]; exact uF_j (by decide)).trans (show Fx (pa) (14 : Int) = F (pa) (14 : Int) from hMx _ _ pq.1 (fun w => by have q1 := ho11.2; rw [w, ho5.2] at q1; exact absurd q1 (by decide)) (by rw [pq.2]; rfl)))))))] at z; exact z
    refine jx_ld (pc_q := 197) (l_q := jSto1 L47 3 (rv (F (pa) (14 : Int)))) (st_q := []) rfl (js_rvn (by decide)) ?_
    obtain ⟨L54, eL54⟩ : ∃ q : jL, q = jSto1 L47 3 (rv (F (pa) (14 : Int))) := ⟨_, rfl⟩
    rw [← eL54]
    have g55 : jGet L54 0 = some (rv (me)) := eL54 ▸ jg_nr (by decide) g48
    have g56 : jGet L54 1 = some (rv (cl)) := eL54 ▸ jg_nr (by decide) g49
    have g57 : jGet L54 5 = some (rv (ag)) := eL54 ▸ jg_nr (by decide) g51
    have g58 : jGet L54 2 = some (rv (ag)) := eL54 ▸ jg_nr (by decide) g52
    have g59 : jGet L54 3 = some (rv (F (pa) (14 : Int))) := eL54 ▸ jg_eq
    clear eL54
    refine jx_go (tg := 19) rfl rfl ?_
    have q60 : F42 (sc) (8 : Int) = Fx (sc) (8 : Int) := ((show F42 (sc) (8 : Int) = F37 (sc) (8 : Int) from by rw [eF42]; exact uF_j (by decide)).trans ((show F37 (sc) (8 : Int) = F31 (sc) (8 : Int) from by rw [eF37]; exact uF_j (by decide)).trans ((show F31 (sc) (8 : Int) = F27 (sc) (8 : Int) from by rw [eF31]; exact uF_j (by decide)).trans ((show F27 (sc) (8 : Int) = F23 (sc) (8 : Int) from by rw [eF27]; exact uF_j (by decide)).trans (show F23 (sc) (8 : Int) = Fx (sc) (8 : Int) from by rw [eF23]; exact uF_j (by decide))))))
    have q61 : F42 (sc) (15 : Int) = Fx (sc) (15 : Int) := ((show F42 (sc) (15 : Int) = F37 (sc) (15 : Int) from by rw [eF42]; exact uF_j (by decide)).trans ((show F37 (sc) (15 : Int) = F31 (sc) (15 : Int) from by rw [eF37]; exact uF_j (by decide)).trans ((show F31 (sc) (15 : Int) = F27 (sc) (15 : Int) from by rw [eF31]; exact uF_j (by decide)).trans ((show F27 (sc) (15 : Int) = F23 (sc) (15 : Int) from by rw [eF27]; exact uF_j (by decide)).trans (show F23 (sc) (15 : Int) = Fx (sc) (15 : Int) from by rw [eF23]; exact uF_j (by decide))))))
    have q62 : tz (F42 (sc) (15 : Int)) = tz (Fx (sc) (15 : Int)) := by rw [q61]
    have q63 := tz_b (Fx (sc) (15 : Int))
    have q64 : F42 (sc) (14 : Int) = Fx (sc) (14 : Int) := ((show F42 (sc) (14 : Int) = F37 (sc) (14 : Int) from by rw [eF42]; exact uF_j (by decide)).trans ((show F37 (sc) (14 : Int) = F31 (sc) (14 : Int) from by rw [eF37]; exact uF_j (by decide)).trans ((show F31 (sc) (14 : Int) = F27 (sc) (14 : Int) from by rw [eF31]; exact uF_j (by decide)).trans ((show F27 (sc) (14 : Int) = F23 (sc) (14 : Int) from by rw [eF27]; exact uF_j (by decide)).trans (show F23 (sc) (14 : Int) = Fx (sc) (14 : Int) from by rw [eF23]; exact uF_j (by decide))))))
    have q65 : lz (F42 (sc) (14 : Int)) = lz (Fx (sc) (14 : Int)) := by rw [q64]
    have q66 := lz_b (Fx (sc) (14 : Int))
    have q67 : F42 (pg) (9 : Int) = Fx (pg) (9 : Int) := ((show F42 (pg) (9 : Int) = F37 (pg) (9 : Int) from by rw [eF42]; exact uF_j (by decide)).trans ((show F37 (pg) (9 : Int) = F31 (pg) (9 : Int) from by rw [eF37]; exact uF_j (by decide)).trans ((show F31 (pg) (9 : Int) = F27 (pg) (9 : Int) from by rw [eF31]; exact uF_j (by decide)).trans ((show F27 (pg) (9 : Int) = F23 (pg) (9 : Int) from by rw [eF27]; exact uF_j (by decide)).trans (show F23 (pg) (9 : Int) = Fx (pg) (9 : Int) from by rw [eF23]; exact uF_j (by decide))))))
    have q68 : F42 (me) (3 : Int) = Fx (me) (3 : Int) := ((show F42 (me) (3 : Int) = F37 (me) (3 : Int) from by rw [eF42]; exact uF_j (by decide)).trans ((show F37 (me) (3 : Int) = F31 (me) (3 : Int) from by rw [eF37]; exact uF_j (by decide)).trans ((show F31 (me) (3 : Int) = F27 (me) (3 : Int) from by rw [eF31]; exact uF_j (by decide)).trans ((show F27 (me) (3 : Int) = F23 (me) (3 : Int) from by rw [eF27]; exact uF_j (by decide)).trans (show F23 (me) (3 : Int) = Fx (me) (3 : Int) from by rw [eF23]; exact uF_j (by decide))))))
    have q69 : F42 (cl) (0 : Int) = Fx (cl) (0 : Int) := ((show F42 (cl) (0 : Int) = F37 (cl) (0 : Int) from by rw [eF42]; exact uF_j (by decide)).trans ((show F37 (cl) (0 : Int) = F31 (cl) (0 : Int) from by rw [eF37]; exact uF_j (by decide)).trans ((show F31 (cl) (0 : Int) = F27 (cl) (0 : Int) from by rw [eF31]; exact uF_j (by decide)).trans ((show F27 (cl) (0 : Int) = F23 (cl) (0 : Int) from by rw [eF27]; exact uF_j (by decide)).trans (show F23 (cl) (0 : Int) = Fx (cl) (0 : Int) from by rw [eF23]; exact uF_j (by decide))))))
    have q70 : F42 (cl) (3 : Int) = nm := (((show F42 (cl) (3 : Int) = F37 (cl) (3 : Int) from by rw [eF42]; exact uF_j (by decide)).trans ((show F37 (cl) (3 : Int) = F31 (cl) (3 : Int) from by rw [eF37]; exact uF_j (by decide)).trans ((show F31 (cl) (3 : Int) = F27 (cl) (3 : Int) from by rw [eF31]; exact uF_j (by decide)).trans ((show F27 (cl) (3 : Int) = F23 (cl) (3 : Int) from by rw [eF27]; exact uF_j (by decide)).trans (show F23 (cl) (3 : Int) = Fx (cl) (3 : Int) from by rw [eF23]; exact uF_j (by decide)))))).trans iv_9)
    have q71 : F42 (ag) (103 : Int) = 1 := ((show F42 (ag) (103 : Int) = F37 (ag) (103 : Int) from by rw [eF42]; exact uF_j (by decide)).trans ((show F37 (ag) (103 : Int) = F31 (ag) (103 : Int) from by rw [eF37]; exact uF_j (by decide)).trans (show F31 (ag) (103 : Int) = 1 from by rw [eF31]; exact uF_e)))
    have q72 : F42 (ag) (100 : Int) = 20 := ((show F42 (ag) (100 : Int) = F37 (ag) (100 : Int) from by rw [eF42]; exact uF_j (by decide)).trans ((show F37 (ag) (100 : Int) = F31 (ag) (100 : Int) from by rw [eF37]; exact uF_j (by decide)).trans ((show F31 (ag) (100 : Int) = F27 (ag) (100 : Int) from by rw [eF31]; exact uF_j (by decide)).trans (show F27 (ag) (100 : Int) = 20 from by rw [eF27]; exact uF_e))))
    have q73 : F42 (ag) (101 : Int) = pa := ((show F42 (ag) (101 : Int) = F37 (ag) (101 : Int) from by rw [eF42]; exact uF_j (by decide)).trans ((show F37 (ag) (101 : Int) = F31 (ag) (101 : Int) from by rw [eF37]; exact uF_j (by decide)).trans ((show F31 (ag) (101 : Int) = F27 (ag) (101 : Int) from by rw [eF31]; exact uF_j (by decide)).trans ((show F27 (ag) (101 : Int) = F23 (ag) (101 : Int) from by rw [eF27]; exact uF_j (by decide)).trans (show F23 (ag) (101 : Int) = pa from by rw [eF23]; exact uF_e)))))
    exact ih _ (by omega) L54 mx tgx lnx F42 (ag) (F (pa) (14 : Int)) rfl g55 g56 g58 g59 hXx hC43 hM44 (Or.inr ⟨ho13.1, ho13.2⟩) y53 (by omega) (by omega) (by omega) (by omega) (by omega) (by omega) (by omega) (by omega) (by omega) (by omega) (by omega) (by omega) (by have z := HC_r (c := 6) (q := 14) hC pq.1 pq.2 (by decide) rfl; exact z) (Or.inr (by rw [show F42 (ag) (101 : Int) = pa from ((show F42 (ag) (101 : Int) = F37 (ag) (101 : Int) from by rw [eF42]; exact uF_j (by decide)).trans ((show F37 (ag) (101 : Int) = F31 (ag) (101 : Int) from by rw [eF37]; exact uF_j (by decide)).trans ((show F31 (ag) (101 : Int) = F27 (ag) (101 : Int) from by rw [eF31]; exact uF_j (by decide)).trans ((show F27 (ag) (101 : Int) = F23 (ag) (101 : Int) from by rw [eF27]; exact uF_j (by decide)).trans (show F23 (ag) (101 : Int) = pa from by rw [eF23]; exact uF_e)))))]; exact ⟨pq.1, pq.2, rfl⟩)) c46 cx_NM (WK_m w45 (by omega))
  · have _q := hlz36
    refine Or.inr (Or.inl ⟨_, rfl, ?_⟩)
    have ho74 : own mx (la) ∧ tgx (la) = 8 := yx_la.resolve_left hlz36
    obtain ⟨F75, eF75⟩ : ∃ q, q = uF F31 (la) (8 : Int) (ag) := ⟨_, rfl⟩
    rw [← eF75]
    have hC76 : HC 0 mx tgx lnx F75 := by rw [eF75]; exact HC_fr (c := 7) (q := 8) (by decide) hC32 ho74.2 (by decide) rfl (Or.inr ⟨ho13.1, ho13.2⟩) ⟨fun w => absurd w (by decide), fun w => absurd w (by decide)⟩
    have hM77 : Fq cl [(9, 3), (10, 0), (10, 1), (10, 2), (10, 9), (11, 8), (11, 12), (11, 13), (11, 14), (11, 15), (11, 16), (11, 17), (11, 18)] m tg F F75 := by rw [eF75]; exact Fq_x hM33 (Or.inr (by omega))
    have w78 : WK F75 cl (21) := by rw [eF75]; exact WK_8 w34 (by omega)
    have c79 : NP mx tgx F75 := by rw [eF75]; exact NP_nx hC32 c35 ho74.1 ho74.2 (by rw [show F31 (la) (103 : Int) = Fx (la) (103 : Int) from ((show F31 (la) (103 : Int) = F27 (la) (103 : Int) from by rw [eF31]; exact uF_a (by omega)).trans ((show F27 (la) (103 : Int) = F23 (la) (103 : Int) from by rw [eF27]; exact uF_j (by decide)).trans (show F23 (la) (103 : Int) = Fx (la) (103 : Int) from by rw [eF23]; exact uF_j (by decide))))]; omega) (show F31 (ag) (103 : Int) = 1 from by rw [eF31]; exact uF_e) (by omega) (by rw [show F31 (ag) (100 : Int) = 20 from ((show F31 (ag) (100 : Int) = F27 (ag) (100 : Int) from by rw [eF31]; exact uF_j (by decide)).trans (show F27 (ag) (100 : Int) = 20 from by rw [eF27]; exact uF_e))]; rw [show F31 (la) (100 : Int) = Fx (la) (100 : Int) from ((show F31 (la) (100 : Int) = F27 (la) (100 : Int) from by rw [eF31]; exact uF_j (by decide)).trans ((show F27 (la) (100 : Int) = F23 (la) (100 : Int) from by rw [eF27]; exact uF_a (by omega)).trans (show F23 (la) (100 : Int) = Fx (la) (100 : Int) from by rw [eF23]; exact uF_j (by decide))))]; omega) (fun _ => by have iw := iv_13.resolve_left (by omega); rw [show F31 (la) (101 : Int) = Fx (la) (101 : Int) from ((show F31 (la) (101 : Int) = F27 (la) (101 : Int) from by rw [eF31]; exact uF_j (by decide)).trans ((show F27 (la) (101 : Int) = F23 (la) (101 : Int) from by rw [eF27]; exact uF_j (by decide)).trans (show F23 (la) (101 : Int) = Fx (la) (101 : Int) from by rw [eF23]; exact uF_a (by omega)))), show F31 (ag) (101 : Int) = pa from ((show F31 (ag) (101 : Int) = F27 (ag) (101 : Int) from by rw [eF31]; exact uF_j (by decide)).trans ((show F27 (ag) (101 : Int) = F23 (ag) (101 : Int) from by rw [eF27]; exact uF_j (by decide)).trans (show F23 (ag) (101 : Int) = pa from by rw [eF23]; exact uF_e))), show F31 (Fx (la) (101 : Int)) (14 : Int) = F (Fx (la) (101 : Int)) (14 : Int) from hM33 _ _ iw.1 (ne_t iw.2.1 t_cl (by decide)) (by rw [iw.2.1]; rfl)]; exact ⟨iw.2.2.symm, by rw [iw.2.2]; omega⟩)
    obtain ⟨F80, eF80⟩ : ∃ q, q = uF F75 (cl) (2 : Int) (z36) := ⟨_, rfl⟩
    rw [← eF80]
    have hC81 : HC 0 mx tgx lnx F80 := by rw [eF80]; exact HC_fi (c := 7) (q := 2) hC76 ho5.2 (by decide) rfl (by omega) (by omega) ⟨fun w => absurd w (by decide), fun w => absurd w (by decide)⟩
    have hM82 : Fq cl [(9, 3), (10, 0), (10, 1), (10, 2), (10, 9), (11, 8), (11, 12), (11, 13), (11, 14), (11, 15), (11, 16), (11, 17), (11, 18)] m tg F F80 := by rw [eF80]; exact Fq_x hM77 (Or.inl rfl)
    have w83 : WK F80 cl (21) := by rw [eF80]; exact WK_o w78 (by decide)
    have c84 : NP mx tgx F80 := by rw [eF80]; exact NP_un hC76 c79 ho5.1 ho5.2 (by rw [show F75 (cl) (103 : Int) = Fx (cl) (103 : Int) from ((show F75 (cl) (103 : Int) = F31 (cl) (103 : Int) from by rw [eF75]; exact uF_j (by decide)).trans ((show F31 (cl) (103 : Int) = F27 (cl) (103 : Int) from by rw [eF31]; exact uF_a (by omega)).trans ((show F27 (cl) (103 : Int) = F23 (cl) (103 : Int) from by rw [eF27]; exact uF_j (by decide)).trans (show F23 (cl) (103 : Int) = Fx (cl) (103 : Int) from by rw [eF23]; exact uF_j (by decide)))))]; omega) (by decide) (Or.inl (by decide))
    refine jx_ld (pc_q := 192) (l_q := jSto1 L 2 (rv (ag))) (st_q := []) rfl (js_rvn (by decide)) ?_
    obtain ⟨L85, eL85⟩ : ∃ q : jL, q = jSto1 L 2 (rv (ag)) := ⟨_, rfl⟩
    rw [← eL85]
    have g86 : jGet L85 0 = some (rv (me)) := eL85 ▸ jg_nr (by decide) gL_0
    have g87 : jGet L85 1 = some (rv (cl)) := eL85 ▸ jg_nr (by decide) gL_1
    have g88 : jGet L85 3 = some (rv (pa)) := eL85 ▸ jg_nr (by decide) gL_3
    have g89 : jGet L85 5 = some (rv (ag)) := eL85 ▸ jg_nr (by decide) gL_5
    have g90 : jGet L85 2 = some (rv (ag)) := eL85 ▸ jg_eq
    clear eL85
    refine jx_ld (pc_q := 193) (l_q := L85) (st_q := [rv (pa)]) rfl (jl_rvn g88) ?_
    refine cx_gr (pc_q := 196) (c := 6) (q := 14) (v := F (pa) (14 : Int)) rfl rfl (by decide) (by decide) rfl rfl ho11.1 ho11.2 ((show F80 (pa) (14 : Int) = F75 (pa) (14 : Int) from by rw [eF80]; exact uF_j (by decide)).trans ((show F75 (pa) (14 : Int) = F31 (pa) (14 : Int) from by rw [eF75]; exact uF_j (by decide)).trans ((show F31 (pa) (14 : Int) = F27 (pa) (14 : Int) from by rw [eF31]; exact uF_j (by decide)).trans ((show F27 (pa) (14 : Int) = F23 (pa) (14 : Int) from by rw [eF27]; exact uF_j (by decide)).trans ((show F23 (pa) (14 : Int) = Fx (pa) (14 : Int) from by rw [eF23]; exact uF_j (by decide)).trans (show Fx (pa) (14 : Int) = F (pa) (14 : Int) from hMx _ _ pq.1 (fun w => by have q1 := ho11.2; rw [w, ho5.2] at q1; exact absurd q1 (by decide)) (by rw [pq.2]; rfl))))))) ?_
    have y91 : F (pa) (14 : Int) = 0 ∨ (own mx (F (pa) (14 : Int)) ∧ tgx (F (pa) (14 : Int)) = 7) := by have z := HC_r (c := 6) (q := 14) hC81 ho11.1 ho11.2 (by decide) rfl; rw [show F80 (pa) ((14 : Nat) : Int) = F (pa) (14 : Int) from ((show F80 (pa) (14 : Int) = F75 (pa) (14 : Int) from by rw [eF80]; exact uF_j (by decide)).trans ((show F75 (pa) (14 : Int) = F31 (pa) (14 : Int) from by rw [eF75]; exact uF_j (by decide)).trans ((show F31 (pa) (14 : Int) = F27 (pa) (14 : Int) from by rw [eF31]; exact uF_j (by decide)).trans ((show F27 (pa) (14 : Int) = F23 (pa) (14 : Int) from by rw [eF27]; exact uF_j (by decide)).trans ((show F23 (pa) (14 : Int) = Fx (pa) (14 : Int) from by rw [eF23]; exact uF_j (by decide)).trans (show Fx (pa) (14 : Int) = F (pa) (14 : Int) from hMx _ _ pq.1 (fun w => by have q1 := ho11.2; rw [w, ho5.2] at q1; exact absurd q1 (by decide)) (by rw [pq.2]; rfl)))))))] at z; exact z
    refine jx_ld (pc_q := 197) (l_q := jSto1 L85 3 (rv (F (pa) (14 : Int)))) (st_q := []) rfl (js_rvn (by decide)) ?_
    obtain ⟨L92, eL92⟩ : ∃ q : jL, q = jSto1 L85 3 (rv (F (pa) (14 : Int))) := ⟨_, rfl⟩
    rw [← eL92]
    have g93 : jGet L92 0 = some (rv (me)) := eL92 ▸ jg_nr (by decide) g86
    have g94 : jGet L92 1 = some (rv (cl)) := eL92 ▸ jg_nr (by decide) g87
    have g95 : jGet L92 5 = some (rv (ag)) := eL92 ▸ jg_nr (by decide) g89
    have g96 : jGet L92 2 = some (rv (ag)) := eL92 ▸ jg_nr (by decide) g90
    have g97 : jGet L92 3 = some (rv (F (pa) (14 : Int))) := eL92 ▸ jg_eq
    clear eL92
    refine jx_go (tg := 19) rfl rfl ?_
    have q98 : F80 (sc) (8 : Int) = Fx (sc) (8 : Int) := ((show F80 (sc) (8 : Int) = F75 (sc) (8 : Int) from by rw [eF80]; exact uF_j (by decide)).trans ((show F75 (sc) (8 : Int) = F31 (sc) (8 : Int) from by rw [eF75]; exact uF_a (fun w => by have q1 := ho6.2; have q2 := ho74.2; rw [w, q2] at q1; exact absurd q1 (by decide))).trans ((show F31 (sc) (8 : Int) = F27 (sc) (8 : Int) from by rw [eF31]; exact uF_j (by decide)).trans ((show F27 (sc) (8 : Int) = F23 (sc) (8 : Int) from by rw [eF27]; exact uF_j (by decide)).trans (show F23 (sc) (8 : Int) = Fx (sc) (8 : Int) from by rw [eF23]; exact uF_j (by decide))))))
    have q99 : F80 (sc) (15 : Int) = Fx (sc) (15 : Int) := ((show F80 (sc) (15 : Int) = F75 (sc) (15 : Int) from by rw [eF80]; exact uF_j (by decide)).trans ((show F75 (sc) (15 : Int) = F31 (sc) (15 : Int) from by rw [eF75]; exact uF_j (by decide)).trans ((show F31 (sc) (15 : Int) = F27 (sc) (15 : Int) from by rw [eF31]; exact uF_j (by decide)).trans ((show F27 (sc) (15 : Int) = F23 (sc) (15 : Int) from by rw [eF27]; exact uF_j (by decide)).trans (show F23 (sc) (15 : Int) = Fx (sc) (15 : Int) from by rw [eF23]; exact uF_j (by decide))))))
    have q100 : tz (F80 (sc) (15 : Int)) = tz (Fx (sc) (15 : Int)) := by rw [q99]
    have q101 := tz_b (Fx (sc) (15 : Int))
    have q102 : F80 (sc) (14 : Int) = Fx (sc) (14 : Int) := ((show F80 (sc) (14 : Int) = F75 (sc) (14 : Int) from by rw [eF80]; exact uF_j (by decide)).trans ((show F75 (sc) (14 : Int) = F31 (sc) (14 : Int) from by rw [eF75]; exact uF_j (by decide)).trans ((show F31 (sc) (14 : Int) = F27 (sc) (14 : Int) from by rw [eF31]; exact uF_j (by decide)).trans ((show F27 (sc) (14 : Int) = F23 (sc) (14 : Int) from by rw [eF27]; exact uF_j (by decide)).trans (show F23 (sc) (14 : Int) = Fx (sc) (14 : Int) from by rw [eF23]; exact uF_j (by decide))))))
    have q103 : lz (F80 (sc) (14 : Int)) = lz (Fx (sc) (14 : Int)) := by rw [q102]
    have q104 := lz_b (Fx (sc) (14 : Int))
    have q105 : F80 (pg) (9 : Int) = Fx (pg) (9 : Int) := ((show F80 (pg) (9 : Int) = F75 (pg) (9 : Int) from by rw [eF80]; exact uF_j (by decide)).trans ((show F75 (pg) (9 : Int) = F31 (pg) (9 : Int) from by rw [eF75]; exact uF_j (by decide)).trans ((show F31 (pg) (9 : Int) = F27 (pg) (9 : Int) from by rw [eF31]; exact uF_j (by decide)).trans ((show F27 (pg) (9 : Int) = F23 (pg) (9 : Int) from by rw [eF27]; exact uF_j (by decide)).trans (show F23 (pg) (9 : Int) = Fx (pg) (9 : Int) from by rw [eF23]; exact uF_j (by decide))))))
    have q106 : F80 (me) (3 : Int) = Fx (me) (3 : Int) := ((show F80 (me) (3 : Int) = F75 (me) (3 : Int) from by rw [eF80]; exact uF_j (by decide)).trans ((show F75 (me) (3 : Int) = F31 (me) (3 : Int) from by rw [eF75]; exact uF_j (by decide)).trans ((show F31 (me) (3 : Int) = F27 (me) (3 : Int) from by rw [eF31]; exact uF_j (by decide)).trans ((show F27 (me) (3 : Int) = F23 (me) (3 : Int) from by rw [eF27]; exact uF_j (by decide)).trans (show F23 (me) (3 : Int) = Fx (me) (3 : Int) from by rw [eF23]; exact uF_j (by decide))))))
    have q107 : F80 (cl) (0 : Int) = Fx (cl) (0 : Int) := ((show F80 (cl) (0 : Int) = F75 (cl) (0 : Int) from by rw [eF80]; exact uF_j (by decide)).trans ((show F75 (cl) (0 : Int) = F31 (cl) (0 : Int) from by rw [eF75]; exact uF_j (by decide)).trans ((show F31 (cl) (0 : Int) = F27 (cl) (0 : Int) from by rw [eF31]; exact uF_j (by decide)).trans ((show F27 (cl) (0 : Int) = F23 (cl) (0 : Int) from by rw [eF27]; exact uF_j (by decide)).trans (show F23 (cl) (0 : Int) = Fx (cl) (0 : Int) from by rw [eF23]; exact uF_j (by decide))))))
    have q108 : F80 (cl) (3 : Int) = nm := (((show F80 (cl) (3 : Int) = F75 (cl) (3 : Int) from by rw [eF80]; exact uF_j (by decide)).trans ((show F75 (cl) (3 : Int) = F31 (cl) (3 : Int) from by rw [eF75]; exact uF_j (by decide)).trans ((show F31 (cl) (3 : Int) = F27 (cl) (3 : Int) from by rw [eF31]; exact uF_j (by decide)).trans ((show F27 (cl) (3 : Int) = F23 (cl) (3 : Int) from by rw [eF27]; exact uF_j (by decide)).trans (show F23 (cl) (3 : Int) = Fx (cl) (3 : Int) from by rw [eF23]; exact uF_j (by decide)))))).trans iv_9)
    have q109 : F80 (ag) (103 : Int) = 1 := ((show F80 (ag) (103 : Int) = F75 (ag) (103 : Int) from by rw [eF80]; exact uF_j (by decide)).trans ((show F75 (ag) (103 : Int) = F31 (ag) (103 : Int) from by rw [eF75]; exact uF_j (by decide)).trans (show F31 (ag) (103 : Int) = 1 from by rw [eF31]; exact uF_e)))
    have q110 : F80 (ag) (100 : Int) = 20 := ((show F80 (ag) (100 : Int) = F75 (ag) (100 : Int) from by rw [eF80]; exact uF_j (by decide)).trans ((show F75 (ag) (100 : Int) = F31 (ag) (100 : Int) from by rw [eF75]; exact uF_j (by decide)).trans ((show F31 (ag) (100 : Int) = F27 (ag) (100 : Int) from by rw [eF31]; exact uF_j (by decide)).trans (show F27 (ag) (100 : Int) = 20 from by rw [eF27]; exact uF_e))))
    have q111 : F80 (ag) (101 : Int) = pa := ((show F80 (ag) (101 : Int) = F75 (ag) (101 : Int) from by rw [eF80]; exact uF_j (by decide)).trans ((show F75 (ag) (101 : Int) = F31 (ag) (101 : Int) from by rw [eF75]; exact uF_j (by decide)).trans ((show F31 (ag) (101 : Int) = F27 (ag) (101 : Int) from by rw [eF31]; exact uF_j (by decide)).trans ((show F27 (ag) (101 : Int) = F23 (ag) (101 : Int) from by rw [eF27]; exact uF_j (by decide)).trans (show F23 (ag) (101 : Int) = pa from by rw [eF23]; exact uF_e)))))
    exact ih _ (by omega) L92 mx tgx lnx F80 (ag) (F (pa) (14 : Int)) rfl g93 g94 g96 g97 hXx hC81 hM82 (Or.inr ⟨ho13.1, ho13.2⟩) y91 (by omega) (by omega) (by omega) (by omega) (by omega) (by omega) (by omega) (by omega) (by omega) (by omega) (by omega) (by omega) (by have z := HC_r (c := 6) (q := 14) hC pq.1 pq.2 (by decide) rfl; exact z) (Or.inr (by rw [show F80 (ag) (101 : Int) = pa from ((show F80 (ag) (101 : Int) = F75 (ag) (101 : Int) from by rw [eF80]; exact uF_j (by decide)).trans ((show F75 (ag) (101 : Int) = F31 (ag) (101 : Int) from by rw [eF75]; exact uF_j (by decide)).trans ((show F31 (ag) (101 : Int) = F27 (ag) (101 : Int) from by rw [eF31]; exact uF_j (by decide)).trans ((show F27 (ag) (101 : Int) = F23 (ag) (101 : Int) from by rw [eF27]; exact uF_j (by decide)).trans (show F23 (ag) (101 : Int) = pa from by rw [eF23]; exact uF_e)))))]; exact ⟨pq.1, pq.2, rfl⟩)) c84 cx_NM (WK_m w83 (by omega))
set_option maxRecDepth 20000 in
set_option maxHeartbeats 4000000 in
theorem k_LParser_readArguments_at_57 {X : jX} {d : Nat} {R : Nat → jC} {m : Nat} {tg ln : Int → Int} {F : Int → Int → Int} {me cl : Int} (hd : 62 ≤ d + 1) (hC : HC 0 m tg ln F) {sc pg : Int} (o_sc : own m sc) (t_sc : tg sc = 11) (e_sc : F me (1 : Int) = sc) (o_pg : own m pg) (t_pg : tg pg = 10) (e_pg : F me (0 : Int) = pg) (o_me : own m me) (t_me : tg me = 9) (o_cl : own m cl) (t_cl : tg cl = 8) {nm : Int} (o_nm : own m nm) (t_nm : tg nm = 7) (p_0 : F sc (8 : Int) + 2 * tz (F sc (15 : Int)) ≤ F sc (7 : Int) + 1) (p_1 : F sc (8 : Int) + 2 * lz (F sc (14 : Int)) ≤ F sc (7 : Int) + 1) (p_2 : F sc (8 : Int) ≤ F sc (7 : Int)) (p_3 : tz (F sc (15 : Int)) = 1) (p_4 : F cl (0 : Int) = 5) (p_5 : F cl (3 : Int) = nm) (p_6 : F cl (5 : Int) = 0) (p_7 : F cl (6 : Int) = 0) (p_8 : F cl (7 : Int) = 0) (p_9 : F cl (8 : Int) = 0) (p_10 : F cl (101 : Int) = 0) (p_11 : F cl (103 : Int) = 0) (c_NP : NP m tg F) (mm0 : Nat) (ih : ∀ (mm : Nat), mm < mm0 → ∀ (L : jL) (mx : Nat) (tgx lnx : Int → Int) (Fx : Int → Int → Int) (la pa : Int), (mz m pa).toNat = mm → jGet L 0 = some (rv (me)) → jGet L 1 = some (rv (cl)) → jGet L 2 = some (rv la) → jGet L 3 = some (rv pa) → Ex m tg ln mx tgx lnx → HC 0 mx tgx lnx Fx → Fq cl [(9, 3), (10, 0), (10, 1), (10, 2), (10, 9), (11, 8), (11, 12), (11, 13), (11, 14), (11, 15), (11, 16), (11, 17), (11, 18)] m tg F Fx → (la = 0 ∨ (own mx la ∧ tgx la = 8)) → (pa = 0 ∨ (own mx pa ∧ tgx pa = 7)) → (Fx sc (8 : Int) + 2 * tz (Fx sc (15 : Int)) ≤ F sc (7 : Int) + 1) → (Fx sc (8 : Int) + 2 * lz (Fx sc (14 : Int)) ≤ F sc (7 : Int) + 1) → (Fx sc (8 : Int) ≤ F sc (7 : Int)) → (Fx pg (9 : Int) ≤ F pg (9 : Int) + ((mx : Int) - (m : Int))) → (F sc (8 : Int) ≤ Fx sc (8 : Int)) → (szD mx tgx lnx = szD m tg ln + 25 * ((mx : Int) - (m : Int))) → ((mx : Int) ≤ (m : Int) + (Fx sc (8 : Int) - F sc (8 : Int)) + (-1)) → (Fx me (3 : Int) = F me (3 : Int) + 1) → (Fx cl (0 : Int) = 5) → (Fx cl (3 : Int) = nm) → (la ≠ 0 ∨ pa = F nm (13 : Int)) → (la = 0 ∨ (64 + (m : Int) ≤ la ∧ Fx la (103 : Int) = 1 ∧ Fx la (100 : Int) = 20 ∧ Fx la (101 : Int) ≠ 0)) → (pa = 0 ∨ (own m pa ∧ tg pa = 7)) → (la = 0 ∨ (own m (Fx la (101 : Int)) ∧ tg (Fx la (101 : Int)) = 7 ∧ F (Fx la (101 : Int)) (14 : Int) = pa)) → (NP mx tgx Fx) → (NM m mx tgx) → (WK Fx cl (21)) → wj X d jm191 (19, L, [], cV R mx tgx lnx Fx) (fun o V_q => (∃ (m_q : Nat) (tg_q ln_q : Int → Int) (F_q : Int → Int → Int), V_q = cV R m_q tg_q ln_q F_q ∧ o = .inl none ∧ Ex m tg ln m_q tg_q ln_q ∧ HC 0 m_q tg_q ln_q F_q ∧ Fq cl [(9, 3), (10, 0), (10, 1), (10, 2), (10, 9), (11, 8), (11, 12), (11, 13), (11, 14), (11, 15), (11, 16), (11, 17), (11, 18)] m tg F F_q ∧ (F_q sc (8 : Int) + 2 * tz (F_q sc (15 : Int)) ≤ F sc (7 : Int) + 1) ∧ (F_q sc (8 : Int) + 2 * lz (F_q sc (14 : Int)) ≤ F sc (7 : Int) + 1) ∧ (F_q sc (8 : Int) ≤ F sc (7 : Int)) ∧ (F sc (8 : Int) ≤ F_q sc (8 : Int)) ∧ (szD m_q tg_q ln_q = szD m tg ln + 25 * ((m_q : Int) - (m : Int))) ∧ ((m_q : Int) ≤ (m : Int) + (F_q sc (8 : Int) - F sc (8 : Int)) + (-1)) ∧ (F_q pg (9 : Int) ≤ F pg (9 : Int) + ((m_q : Int) - (m : Int))) ∧ (WK F_q cl (21)) ∧ (F_q me (3 : Int) = F me (3 : Int)) ∧ (NP m_q tg_q F_q) ∧ (NM m m_q tg_q) ∧ True) ∨ (∃ (m_q : Nat) (tg_q ln_q : Int → Int) (F_q : Int → Int → Int) (x : Nat), V_q = cV R m_q tg_q ln_q F_q ∧ o = .inr x ∧ Ex m tg ln m_q tg_q ln_q ∧ HC 0 m_q tg_q ln_q F_q ∧ Fq cl [(9, 3), (10, 0), (10, 1), (10, 2), (10, 9), (11, 8), (11, 12), (11, 13), (11, 14), (11, 15), (11, 16), (11, 17), (11, 18)] m tg F F_q ∧ (own m_q (x : Int)) ∧ (tg_q (x : Int) = 16) ∧ (F_q pg (0 : Int) ≠ 0) ∧ (szD m_q tg_q ln_q = szD m tg ln + 25 * ((m_q : Int) - (m : Int))) ∧ ((m_q : Int) ≤ (m : Int) + (F_q sc (8 : Int) - F sc (8 : Int)) + (1)) ∧ (F_q sc (8 : Int) ≤ F sc (7 : Int) + 1) ∧ (NP m_q tg_q F_q) ∧ (NM m m_q tg_q) ∧ True))) : ∀ (L : jL) (mx : Nat) (tgx lnx : Int → Int) (Fx : Int → Int → Int) (la pa : Int), (mz m pa).toNat = mm0 → jGet L 0 = some (rv (me)) → jGet L 1 = some (rv (cl)) → jGet L 2 = some (rv la) → jGet L 3 = some (rv pa) → Ex m tg ln mx tgx lnx → HC 0 mx tgx lnx Fx → Fq cl [(9, 3), (10, 0), (10, 1), (10, 2), (10, 9), (11, 8), (11, 12), (11, 13), (11, 14), (11, 15), (11, 16), (11, 17), (11, 18)] m tg F Fx → (la = 0 ∨ (own mx la ∧ tgx la = 8)) → (pa = 0 ∨ (own mx pa ∧ tgx pa = 7)) → (Fx sc (8 : Int) + 2 * tz (Fx sc (15 : Int)) ≤ F sc (7 : Int) + 1) → (Fx sc (8 : Int) + 2 * lz (Fx sc (14 : Int)) ≤ F sc (7 : Int) + 1) → (Fx sc (8 : Int) ≤ F sc (7 : Int)) → (Fx pg (9 : Int) ≤ F pg (9 : Int) + ((mx : Int) - (m : Int))) → (F sc (8 : Int) ≤ Fx sc (8 : Int)) → (szD mx tgx lnx = szD m tg ln + 25 * ((mx : Int) - (m : Int))) → ((mx : Int) ≤ (m : Int) + (Fx sc (8 : Int) - F sc (8 : Int)) + (-1)) → (Fx me (3 : Int) = F me (3 : Int) + 1) → (Fx cl (0 : Int) = 5) → (Fx cl (3 : Int) = nm) → (la ≠ 0 ∨ pa = F nm (13 : Int)) → (la = 0 ∨ (64 + (m : Int) ≤ la ∧ Fx la (103 : Int) = 1 ∧ Fx la (100 : Int) = 20 ∧ Fx la (101 : Int) ≠ 0)) → (pa = 0 ∨ (own m pa ∧ tg pa = 7)) → (la = 0 ∨ (own m (Fx la (101 : Int)) ∧ tg (Fx la (101 : Int)) = 7 ∧ F (Fx la (101 : Int)) (14 : Int) = pa)) → (pa ≠ 0) → (NP mx tgx Fx) → (NM m mx tgx) → (WK Fx cl (21)) → wj X d jm191 (57, L, [], cV R mx tgx lnx Fx) (fun o V_q => (∃ (m_q : Nat) (tg_q ln_q : Int → Int) (F_q : Int → Int → Int), V_q = cV R m_q tg_q ln_q F_q ∧ o = .inl none ∧ Ex m tg ln m_q tg_q ln_q ∧ HC 0 m_q tg_q ln_q F_q ∧ Fq cl [(9, 3), (10, 0), (10, 1), (10, 2), (10, 9), (11, 8), (11, 12), (11, 13), (11, 14), (11, 15), (11, 16), (11, 17), (11, 18)] m tg F F_q ∧ (F_q sc (8 : Int) + 2 * tz (F_q sc (15 : Int)) ≤ F sc (7 : Int) + 1) ∧ (F_q sc (8 : Int) + 2 * lz (F_q sc (14 : Int)) ≤ F sc (7 : Int) + 1) ∧ (F_q sc (8 : Int) ≤ F sc (7 : Int)) ∧ (F sc (8 : Int) ≤ F_q sc (8 : Int)) ∧ (szD m_q tg_q ln_q = szD m tg ln + 25 * ((m_q : Int) - (m : Int))) ∧ ((m_q : Int) ≤ (m : Int) + (F_q sc (8 : Int) - F sc (8 : Int)) + (-1)) ∧ (F_q pg (9 : Int) ≤ F pg (9 : Int) + ((m_q : Int) - (m : Int))) ∧ (WK F_q cl (21)) ∧ (F_q me (3 : Int) = F me (3 : Int)) ∧ (NP m_q tg_q F_q) ∧ (NM m m_q tg_q) ∧ True) ∨ (∃ (m_q : Nat) (tg_q ln_q : Int → Int) (F_q : Int → Int → Int) (x : Nat), V_q = cV R m_q tg_q ln_q F_q ∧ o = .inr x ∧ Ex m tg ln m_q tg_q ln_q ∧ HC 0 m_q tg_q ln_q F_q ∧ Fq cl [(9, 3), (10, 0), (10, 1), (10, 2), (10, 9), (11, 8), (11, 12), (11, 13), (11, 14), (11, 15), (11, 16), (11, 17), (11, 18)] m tg F F_q ∧ (own m_q (x : Int)) ∧ (tg_q (x : Int) = 16) ∧ (F_q pg (0 : Int) ≠ 0) ∧ (szD m_q tg_q ln_q = szD m tg ln + 25 * ((m_q : Int) - (m : Int))) ∧ ((m_q : Int) ≤ (m : Int) + (F_q sc (8 : Int) - F sc (8 : Int)) + (1)) ∧ (F_q sc (8 : Int) ≤ F sc (7 : Int) + 1) ∧ (NP m_q tg_q F_q) ∧ (NM m m_q tg_q) ∧ True)) := by
  intro L mx tgx lnx Fx la pa hmm gL_0 gL_1 gL_2 gL_3 hXx hCx hMx yx_la yx_pa iv_0 iv_1 iv_2 iv_3 iv_4 iv_5 iv_6 iv_7 iv_8 iv_9 iv_10 iv_11 iv_12 iv_13 iv_14 cx_NP cx_NM wx_cl
  have hX0 : Ex m tg ln m tg ln := Ex_r
  have lm112 := hXx.1
  have lt113 : cl < 64 + (m : Int) := o_cl.2.1
  have lt114 : nm < 64 + (m : Int) := o_nm.2.1
  have ho115 : own mx (me) ∧ tgx (me) = 9 := Ex_o hXx ⟨o_me, t_me⟩
  have ho116 : own mx (cl) ∧ tgx (cl) = 8 := Ex_o hXx ⟨o_cl, t_cl⟩
  have ho117 : own mx (sc) ∧ tgx (sc) = 11 := Ex_o hXx ⟨o_sc, t_sc⟩
  have ho118 : own mx (pg) ∧ tgx (pg) = 10 := Ex_o hXx ⟨o_pg, t_pg⟩
  have ho119 : own mx (nm) ∧ tgx (nm) = 7 := Ex_o hXx ⟨o_nm, t_nm⟩
  have hX120 := Ex_t hX0 hXx
  have hz121 : pa ≠ 0 := by omega
  have ho122 : own mx (pa) ∧ tgx (pa) = 7 := yx_pa.resolve_left hz121
  have tb0 := tz_b (F sc (15 : Int))
  have lb0 := lz_b (F sc (14 : Int))
  have tb1 := tz_b (Fx sc (15 : Int))
  have lb1 := lz_b (Fx sc (14 : Int))
  have ob0 : (0 : Int) ≤ F me (3 : Int) ∧ F me (3 : Int) ≤ 8 := HC_i (c := 8) (q := 3) hC o_me t_me (by decide) rfl
  have tp0 : F me (2 : Int) < 64 + (m : Int) := by
    have z : F me (2 : Int) = 0 ∨ (own m (F me (2 : Int)) ∧ tg (F me (2 : Int)) = 7) := HC_r (c := 8) (q := 2) hC o_me t_me (by decide) rfl
    rcases z with w | w
    · omega
    · exact w.1.2.1
  have nz_cl := own_z o_cl
  have q123 := wx_cl.1
  have q124 := wx_cl.2.1
  have q125 := wx_cl.2.2.1
  by_cases h126 : la = 0
  · have _q := h126
    have pq := iv_12.resolve_left (by omega)
    have pz := mz_a hC c_NP.1 pq.1 pq.2
    refine jx_ld (pc_q := 58) (l_q := L) (st_q := [rv (pa)]) rfl (jl_rvn gL_3) ?_
    refine cx_gi (pc_q := 61) (c := 6) (q := 0) (v := F (pa) (0 : Int)) rfl rfl (by decide) (by decide) (Or.inl rfl) rfl ho122.1 ho122.2 (show Fx (pa) (0 : Int) = F (pa) (0 : Int) from hMx _ _ pq.1 (fun w => by have q1 := ho122.2; rw [w, ho116.2] at q1; exact absurd q1 (by decide)) (by rw [pq.2]; rfl)) ?_
    have b127 : (-2147483648 : Int) ≤ F (pa) (0 : Int) ∧ F (pa) (0 : Int) ≤ 2147483647 := by have z := HC_i (c := 6) (q := 0) hCx ho122.1 ho122.2 (by decide) rfl; rw [show Fx (pa) ((0 : Nat) : Int) = F (pa) (0 : Int) from (show Fx (pa) (0 : Int) = F (pa) (0 : Int) from hMx _ _ pq.1 (fun w => by have q1 := ho122.2; rw [w, ho116.2] at q1; exact absurd q1 (by decide)) (by rw [pq.2]; rfl))] at z; exact z
    refine jx_ar (pc_q := 62) (st_q := [.int (i32 (1)), .int (i32 (F (pa) (0 : Int)))]) rfl rfl rfl rfl ?_
    refine jx_icmp_eq (pc_q := 65) (tg := 69) rfl rfl rfl (by omega) (by omega) (by decide) (by decide) (fun h128 => ?_) (fun h128 => ?_)
    · have _q := h128
      refine jx_ar (pc_q := 70) (st_q := [.int (i32 (0))]) rfl rfl rfl rfl ?_
      refine jx_ld (pc_q := 72) (l_q := jSto1 L 4 (.int (i32 (0)))) (st_q := []) rfl rfl ?_
      obtain ⟨L129, eL129⟩ : ∃ q : jL, q = jSto1 L 4 (.int (i32 (0))) := ⟨_, rfl⟩
      rw [← eL129]
      have g130 : jGet L129 0 = some (rv (me)) := eL129 ▸ jg_nr (by decide) gL_0
      have g131 : jGet L129 1 = some (rv (cl)) := eL129 ▸ jg_nr (by decide) gL_1
      have g132 : jGet L129 2 = some (rv (la)) := eL129 ▸ jg_nr (by decide) gL_2
      have g133 : jGet L129 3 = some (rv (pa)) := eL129 ▸ jg_nr (by decide) gL_3
      have g134 : jGet L129 4 = some (.int (i32 (0))) := eL129 ▸ jg_eq
      clear eL129
      refine jx_ld (pc_q := 73) (l_q := L129) (st_q := [rv (me)]) rfl (jl_rvn g130) ?_
      refine cx_gr (pc_q := 76) (c := 8) (q := 1) (v := sc) rfl rfl (by decide) (by decide) rfl rfl ho115.1 ho115.2 ((show Fx (me) (1 : Int) = F (me) (1 : Int) from hMx _ _ o_me (fun w => by have q1 := ho115.2; rw [w, ho116.2] at q1; exact absurd q1 (by decide)) (by rw [t_me]; rfl)).trans e_sc) ?_
      refine cx_gi (pc_q := 79) (c := 10) (q := 15) (v := Fx (sc) (15 : Int)) rfl rfl (by decide) (by decide) (Or.inl rfl) rfl ho117.1 ho117.2 rfl ?_
      have b135 : (-2147483648 : Int) ≤ Fx (sc) (15 : Int) ∧ Fx (sc) (15 : Int) ≤ 2147483647 := by have z := HC_i (c := 10) (q := 15) hCx ho117.1 ho117.2 (by decide) rfl; rw [show Fx (sc) ((15 : Nat) : Int) = Fx (sc) (15 : Int) from rfl] at z; exact z
      refine jx_ar (pc_q := 81) (st_q := [.int (i32 (55)), .int (i32 (Fx (sc) (15 : Int)))]) rfl rfl rfl rfl ?_
      refine jx_icmp_eq (pc_q := 84) (tg := 100) rfl rfl rfl (by omega) (by omega) (by decide) (by decide) (fun h136 => ?_) (fun h136 => ?_)
      · have _q := h136
        have t137 : tz (Fx (sc) (15 : Int)) = 1 := tz_p (by omega)
        refine jx_ld (pc_q := 101) (l_q := L129) (st_q := [rv (me)]) rfl (jl_rvn g130) ?_
        refine jx_ar (pc_q := 102) (st_q := [.int (i32 (4)), rv (me)]) rfl rfl rfl rfl ?_
        refine jx_ld (pc_q := 103) (l_q := L129) (st_q := [rv (me), .int (i32 (4)), rv (me)]) rfl (jl_rvn g130) ?_
        refine cx_gr (pc_q := 106) (c := 8) (q := 1) (v := sc) rfl rfl (by decide) (by decide) rfl rfl ho115.1 ho115.2 ((show Fx (me) (1 : Int) = F (me) (1 : Int) from hMx _ _ o_me (fun w => by have q1 := ho115.2; rw [w, ho116.2] at q1; exact absurd q1 (by decide)) (by rw [t_me]; rfl)).trans e_sc) ?_
        refine cx_gi (pc_q := 109) (c := 10) (q := 16) (v := Fx (sc) (16 : Int)) rfl rfl (by decide) (by decide) (Or.inl rfl) rfl ho117.1 ho117.2 rfl ?_
        have b138 : (-2147483648 : Int) ≤ Fx (sc) (16 : Int) ∧ Fx (sc) (16 : Int) ≤ 2147483647 := by have z := HC_i (c := 10) (q := 16) hCx ho117.1 ho117.2 (by decide) rfl; rw [show Fx (sc) ((16 : Nat) : Int) = Fx (sc) (16 : Int) from rfl] at z; exact z
        have q139 : Fx (sc) (7 : Int) = F (sc) (7 : Int) := (show Fx (sc) (7 : Int) = F (sc) (7 : Int) from hMx _ _ o_sc (fun w => by have q1 := ho117.2; rw [w, ho116.2] at q1; exact absurd q1 (by decide)) (by rw [t_sc]; rfl))
        refine cx_vi (c := 8) (a := me) (st := []) (as := [.int (i32 (4)), .int (i32 (Fx (sc) (16 : Int)))]) rfl rfl rfl ho115.1 ho115.2 (by decide) rfl ⟨rfl, rfl, (Nat.le_of_ble_eq_true rfl)⟩ rfl (k_LParser_fail (dd := d) (R := R) (m := mx) (tg := tgx) (ln := lnx) (F := Fx) (me := me) (kd := 4) (pl := Fx (sc) (16 : Int)) (hd := by omega) (hC := hCx) (o_me := ho115.1) (t_me := ho115.2) (h_kd := by omega) (h_pl := by omega) (sc := sc) (pg := pg) (o_sc := ho117.1) (t_sc := ho117.2) (e_sc := ((show Fx (me) (1 : Int) = F (me) (1 : Int) from hMx _ _ o_me (fun w => by have q1 := ho115.2; rw [w, ho116.2] at q1; exact absurd q1 (by decide)) (by rw [t_me]; rfl)).trans e_sc)) (o_pg := ho118.1) (t_pg := ho118.2) (e_pg := ((show Fx (me) (0 : Int) = F (me) (0 : Int) from hMx _ _ o_me (fun w => by have q1 := ho115.2; rw [w, ho116.2] at q1; exact absurd q1 (by decide)) (by rw [t_me]; rfl)).trans e_pg)) (p_0 := by omega) (p_1 := by omega) (c_NP := cx_NP)) (fun o V_q hq => ?_)
        obtain ⟨m140, tg140, ln140, F141, rfl, rfl, hx142, hC143, hM144, p145, c146, c147, -⟩ | ⟨m148, tg148, ln148, F148, x148, rfl, rfl, hx148, hC148, hM148, ho148, ht148, p149, p150, p151, p152, c153, c154, -⟩ := hq
        rotate_left
        ·
          have c155 : NM m m148 tg148 := NM_t cx_NM hx148 c154
          have lm156 := hx148.1
          refine Or.inr (Or.inr (Or.inr ⟨_, _, rfl, cx_exc (c := 15) ho148 ht148 (by decide), rfl, ?_⟩))
          have q157 : Fx (sc) (7 : Int) = F (sc) (7 : Int) := (show Fx (sc) (7 : Int) = F (sc) (7 : Int) from hMx _ _ o_sc (fun w => by have q1 := ho117.2; rw [w, ho116.2] at q1; exact absurd q1 (by decide)) (by rw [t_sc]; rfl))
          exact Or.inr ⟨m148, tg148, ln148, F148, x148, rfl, rfl, Ex_t hXx hx148, hC148, Fq_t (ln := ln) (ln1 := lnx) hMx hXx hM148 (by decide) (Or.inr (Or.inl rfl)), (And.intro ho148 ht148).1, (And.intro ho148 ht148).2, by omega, by omega, by omega, by omega, c153, c155, trivial⟩
        exact p145.elim
      · have _q := h136
        refine jx_ld (pc_q := 86) (l_q := L129) (st_q := [.int (i32 (0))]) rfl (jl_iload g134) ?_
        refine jx_if_eq (pc_q := 89) (tg := 112) rfl rfl rfl (by decide) (by decide) (fun h158 => ?_) (fun h158 => ?_)
        · have _q := h158
          refine jx_ld (pc_q := 113) (l_q := L129) (st_q := [rv (pa)]) rfl (jl_rvn g133) ?_
          refine cx_gi (pc_q := 116) (c := 6) (q := 0) (v := F (pa) (0 : Int)) rfl rfl (by decide) (by decide) (Or.inl rfl) rfl ho122.1 ho122.2 (show Fx (pa) (0 : Int) = F (pa) (0 : Int) from hMx _ _ pq.1 (fun w => by have q1 := ho122.2; rw [w, ho116.2] at q1; exact absurd q1 (by decide)) (by rw [pq.2]; rfl)) ?_
          refine jx_ar (pc_q := 118) (st_q := [.int (i32 (6)), .int (i32 (F (pa) (0 : Int)))]) rfl rfl rfl rfl ?_
          refine jx_icmp_ne (pc_q := 121) (tg := 134) rfl rfl rfl (by omega) (by omega) (by decide) (by decide) (fun h159 => ?_) (fun h159 => ?_)
          · have _q := h159
            refine jx_ld (pc_q := 135) (l_q := L129) (st_q := [rv (pa)]) rfl (jl_rvn g133) ?_
            refine cx_gi (pc_q := 138) (c := 6) (q := 0) (v := F (pa) (0 : Int)) rfl rfl (by decide) (by decide) (Or.inl rfl) rfl ho122.1 ho122.2 (show Fx (pa) (0 : Int) = F (pa) (0 : Int) from hMx _ _ pq.1 (fun w => by have q1 := ho122.2; rw [w, ho116.2] at q1; exact absurd q1 (by decide)) (by rw [pq.2]; rfl)) ?_
            refine jx_ar (pc_q := 140) (st_q := [.int (i32 (8)), .int (i32 (F (pa) (0 : Int)))]) rfl rfl rfl rfl ?_
            refine jx_icmp_ne (pc_q := 143) (tg := 159) rfl rfl rfl (by omega) (by omega) (by decide) (by decide) (fun h160 => ?_) (fun h160 => ?_)
            · have _q := h160
              refine jx_ld (pc_q := 161) (l_q := L129) (st_q := [.int (i32 (0))]) rfl (jl_iload g134) ?_
              refine jx_if_eq (pc_q := 164) (tg := 178) rfl rfl rfl (by decide) (by decide) (fun h161 => ?_) (fun h161 => ?_)
              · have _q := h161
                refine jx_ld (pc_q := 179) (l_q := L129) (st_q := [rv (me)]) rfl (jl_rvn g130) ?_
                have b162 : (0 : Int) ≤ Fx (me) (3 : Int) ∧ Fx (me) (3 : Int) ≤ 8 := by have z := HC_i (c := 8) (q := 3) hCx ho115.1 ho115.2 (by decide) rfl; exact z
                have q163 := tz_b (Fx (sc) (15 : Int))
                have q164 : Fx (sc) (7 : Int) = F (sc) (7 : Int) := (show Fx (sc) (7 : Int) = F (sc) (7 : Int) from hMx _ _ o_sc (fun w => by have q1 := ho117.2; rw [w, ho116.2] at q1; exact absurd q1 (by decide)) (by rw [t_sc]; rfl))
                have q165 := lz_b (Fx (sc) (14 : Int))
                refine cx_vi (c := 8) (a := me) (st := []) (as := []) rfl rfl rfl ho115.1 ho115.2 (by decide) rfl ⟨rfl, rfl, (Nat.le_of_ble_eq_true rfl)⟩ rfl (PEx_all X 9 (dd := d) (R := R) (m := mx) (tg := tgx) (ln := lnx) (F := Fx) (me := me) (hd := by omega) (hC := hCx) (o_me := ho115.1) (t_me := ho115.2) (sc := sc) (pg := pg) (o_sc := ho117.1) (t_sc := ho117.2) (e_sc := ((show Fx (me) (1 : Int) = F (me) (1 : Int) from hMx _ _ o_me (fun w => by have q1 := ho115.2; rw [w, ho116.2] at q1; exact absurd q1 (by decide)) (by rw [t_me]; rfl)).trans e_sc)) (o_pg := ho118.1) (t_pg := ho118.2) (e_pg := ((show Fx (me) (0 : Int) = F (me) (0 : Int) from hMx _ _ o_me (fun w => by have q1 := ho115.2; rw [w, ho116.2] at q1; exact absurd q1 (by decide)) (by rw [t_me]; rfl)).trans e_pg)) (p_0 := by omega) (p_1 := by omega) (p_2 := by omega) (p_3 := by omega) (c_NP := cx_NP)) (fun o V_q hq => ?_)
                obtain ⟨m166, tg166, ln166, F167, r168, rfl, rfl, hx169, hC170, hM171, b172, p173, p174, p175, p176, p177, p178, p179, p180, p181, p182, p183, c184, c185, -⟩ | ⟨m186, tg186, ln186, F186, x186, rfl, rfl, hx186, hC186, hM186, ho186, ht186, p187, p188, p189, p190, c191, c192, -⟩ := hq
                rotate_left
                ·
                  have c193 : NM m m186 tg186 := NM_t cx_NM hx186 c192
                  have lm194 := hx186.1
                  refine Or.inr (Or.inr (Or.inr ⟨_, _, rfl, cx_exc (c := 15) ho186 ht186 (by decide), rfl, ?_⟩))
                  have q195 : Fx (sc) (7 : Int) = F (sc) (7 : Int) := (show Fx (sc) (7 : Int) = F (sc) (7 : Int) from hMx _ _ o_sc (fun w => by have q1 := ho117.2; rw [w, ho116.2] at q1; exact absurd q1 (by decide)) (by rw [t_sc]; rfl))
                  exact Or.inr ⟨m186, tg186, ln186, F186, x186, rfl, rfl, Ex_t hXx hx186, hC186, Fq_t (ln := ln) (ln1 := lnx) hMx hXx hM186 (by decide) (Or.inr (Or.inl rfl)), (And.intro ho186 ht186).1, (And.intro ho186 ht186).2, by omega, by omega, by omega, by omega, c191, c193, trivial⟩
                have hM196 : Fq cl [(9, 3), (10, 0), (10, 1), (10, 2), (10, 9), (11, 8), (11, 12), (11, 13), (11, 14), (11, 15), (11, 16), (11, 17), (11, 18)] m tg F F167 := Fq_t (ln := ln) (ln1 := lnx) hMx hXx hM171 (by decide) (Or.inr (Or.inl rfl))
                have lm197 := hx169.1
                have lt198 : cl < 64 + (mx : Int) := ho116.1.2.1
                have lt199 : la < 64 + (mx : Int) := by rcases yx_la with w | w; (· omega); exact w.1.2.1
                have lt200 : pa < 64 + (mx : Int) := ho122.1.2.1
                have lt201 : nm < 64 + (mx : Int) := ho119.1.2.1
                have ho202 : own m166 (me) ∧ tg166 (me) = 9 := Ex_o hx169 ⟨ho115.1, ho115.2⟩
                have ho203 : own m166 (cl) ∧ tg166 (cl) = 8 := Ex_o hx169 ⟨ho116.1, ho116.2⟩
                have y204 : la = 0 ∨ (own m166 (la) ∧ tg166 (la) = 8) := Ex_z hx169 yx_la
                have ho205 : own m166 (pa) ∧ tg166 (pa) = 7 := Ex_o hx169 ⟨ho122.1, ho122.2⟩
                have ho206 : own m166 (sc) ∧ tg166 (sc) = 11 := Ex_o hx169 ⟨ho117.1, ho117.2⟩
                have ho207 : own m166 (pg) ∧ tg166 (pg) = 10 := Ex_o hx169 ⟨ho118.1, ho118.2⟩
                have ho208 : own m166 (nm) ∧ tg166 (nm) = 7 := Ex_o hx169 ⟨ho119.1, ho119.2⟩
                have hX209 := Ex_t hXx hx169
                have w210 : WK F167 cl (21) := WK_q wx_cl hCx ho116.1 ho116.2 hM171 rfl
                have q211 := p181.1
                have q212 := p181.2.1
                have q213 := p181.2.2.1
                have c214 : NM m m166 tg166 := NM_t cx_NM hx169 c185
                refine Or.inr (Or.inl ⟨_, rfl, ?_⟩)
                refine jx_ld (pc_q := 184) (l_q := jSto1 L129 5 (rv (r168))) (st_q := []) rfl (js_rv (by decide)) ?_
                obtain ⟨L215, eL215⟩ : ∃ q : jL, q = jSto1 L129 5 (rv (r168)) := ⟨_, rfl⟩
                rw [← eL215]
                have g216 : jGet L215 0 = some (rv (me)) := eL215 ▸ jg_nr (by decide) g130
                have g217 : jGet L215 1 = some (rv (cl)) := eL215 ▸ jg_nr (by decide) g131
                have g218 : jGet L215 2 = some (rv (la)) := eL215 ▸ jg_nr (by decide) g132
                have g219 : jGet L215 3 = some (rv (pa)) := eL215 ▸ jg_nr (by decide) g133
                have g220 : jGet L215 4 = some (.int (i32 (0))) := eL215 ▸ jg_ne (by decide) g134 rfl
                have g221 : jGet L215 5 = some (rv (r168)) := eL215 ▸ jg_eq
                clear eL215
                have q222 := tz_b (F167 (sc) (15 : Int))
                have q223 := lz_b (F167 (sc) (14 : Int))
                have q224 : F167 (cl) (0 : Int) = Fx (cl) (0 : Int) := (show F167 (cl) (0 : Int) = Fx (cl) (0 : Int) from hM171 _ _ ho116.1 (own_z ho116.1) (by rw [ho116.2]; rfl))
                have q225 : F167 (cl) (3 : Int) = nm := ((show F167 (cl) (3 : Int) = Fx (cl) (3 : Int) from hM171 _ _ ho116.1 (own_z ho116.1) (by rw [ho116.2]; rfl)).trans iv_9)
                exact k_LParser_readArguments_at_184 (X := X) (d := d) (R := R) (m := m) (tg := tg) (ln := ln) (F := F) (me := me) (cl := cl) (hd := hd) (hC := hC) (sc := sc) (pg := pg) (o_sc := o_sc) (t_sc := t_sc) (e_sc := e_sc) (o_pg := o_pg) (t_pg := t_pg) (e_pg := e_pg) (o_me := o_me) (t_me := t_me) (o_cl := o_cl) (t_cl := t_cl) (nm := nm) (o_nm := o_nm) (t_nm := t_nm) (p_0 := p_0) (p_1 := p_1) (p_2 := p_2) (p_3 := p_3) (p_4 := p_4) (p_5 := p_5) (p_6 := p_6) (p_7 := p_7) (p_8 := p_8) (p_9 := p_9) (p_10 := p_10) (p_11 := p_11) (c_NP := c_NP) (mm0 := mm0) (ih := ih) L215 m166 tg166 ln166 F167 (la) (pa) (r168) (by omega) g216 g217 g218 g219 g221 hX209 hC170 hM196 y204 (Or.inr ⟨ho205.1, ho205.2⟩) (Or.inr ⟨b172.1, b172.2⟩) (by omega) (by omega) (by omega) (by omega) (by omega) (by omega) (by omega) (by omega) (by omega) (by omega) (by omega) (by omega) (Or.inr ⟨pq.1, pq.2⟩) (Or.inl (by omega)) (by omega) (by omega) (by omega) (by omega) c184 c214 (WK_m w210 (by omega)) (WK_m p181 (by omega))
              · have _q := h161
                exact absurd h161 (by omega)
            · have _q := h160
              refine jx_ld (pc_q := 144) (l_q := L129) (st_q := [rv (me)]) rfl (jl_rvn g130) ?_
              refine jx_ld (pc_q := 145) (l_q := L129) (st_q := [rv (me), rv (me)]) rfl (jl_rvn g130) ?_
              have q226 := tz_b (Fx (sc) (15 : Int))
              have q227 : Fx (sc) (7 : Int) = F (sc) (7 : Int) := (show Fx (sc) (7 : Int) = F (sc) (7 : Int) from hMx _ _ o_sc (fun w => by have q1 := ho117.2; rw [w, ho116.2] at q1; exact absurd q1 (by decide)) (by rw [t_sc]; rfl))
              have q228 := lz_b (Fx (sc) (14 : Int))
              refine cx_vi (c := 8) (a := me) (st := [rv (me)]) (as := []) rfl rfl rfl ho115.1 ho115.2 (by decide) rfl ⟨rfl, rfl, (by rw [jS_r, jS_0]; exact Nat.le_of_ble_eq_true rfl)⟩ rfl (k_LParser_known (dd := d) (R := R) (m := mx) (tg := tgx) (ln := lnx) (F := Fx) (me := me) (hd := by omega) (hC := hCx) (o_me := ho115.1) (t_me := ho115.2) (sc := sc) (pg := pg) (o_sc := ho117.1) (t_sc := ho117.2) (e_sc := ((show Fx (me) (1 : Int) = F (me) (1 : Int) from hMx _ _ o_me (fun w => by have q1 := ho115.2; rw [w, ho116.2] at q1; exact absurd q1 (by decide)) (by rw [t_me]; rfl)).trans e_sc)) (o_pg := ho118.1) (t_pg := ho118.2) (e_pg := ((show Fx (me) (0 : Int) = F (me) (0 : Int) from hMx _ _ o_me (fun w => by have q1 := ho115.2; rw [w, ho116.2] at q1; exact absurd q1 (by decide)) (by rw [t_me]; rfl)).trans e_pg)) (p_0 := by omega) (p_1 := by omega) (p_2 := by omega) (c_NP := cx_NP)) (fun o V_q hq => ?_)
              obtain ⟨m229, tg229, ln229, F230, r231, rfl, rfl, hx232, hC233, hM234, b235, p236, p237, p238, p239, p240, p241, p242, c243, c244, -⟩ | ⟨m245, tg245, ln245, F245, x245, rfl, rfl, hx245, hC245, hM245, ho245, ht245, p246, p247, p248, p249, c250, c251, -⟩ := hq
              rotate_left
              ·
                have c252 : NM m m245 tg245 := NM_t cx_NM hx245 c251
                have lm253 := hx245.1
                refine Or.inr (Or.inr (Or.inr ⟨_, _, rfl, cx_exc (c := 15) ho245 ht245 (by decide), rfl, ?_⟩))
                have q254 : Fx (sc) (7 : Int) = F (sc) (7 : Int) := (show Fx (sc) (7 : Int) = F (sc) (7 : Int) from hMx _ _ o_sc (fun w => by have q1 := ho117.2; rw [w, ho116.2] at q1; exact absurd q1 (by decide)) (by rw [t_sc]; rfl))
                exact Or.inr ⟨m245, tg245, ln245, F245, x245, rfl, rfl, Ex_t hXx hx245, hC245, Fq_t (ln := ln) (ln1 := lnx) hMx hXx hM245 (by decide) (Or.inr (Or.inl rfl)), (And.intro ho245 ht245).1, (And.intro ho245 ht245).2, by omega, by omega, by omega, by omega, c250, c252, trivial⟩
              have hM255 : Fq cl [(9, 3), (10, 0), (10, 1), (10, 2), (10, 9), (11, 8), (11, 12), (11, 13), (11, 14), (11, 15), (11, 16), (11, 17), (11, 18)] m tg F F230 := Fq_t (ln := ln) (ln1 := lnx) hMx hXx hM234 (by decide) (Or.inr (Or.inl rfl))
              have lm256 := hx232.1
              have lt257 : cl < 64 + (mx : Int) := ho116.1.2.1
              have lt258 : la < 64 + (mx : Int) := by rcases yx_la with w | w; (· omega); exact w.1.2.1
              have lt259 : pa < 64 + (mx : Int) := ho122.1.2.1
              have lt260 : nm < 64 + (mx : Int) := ho119.1.2.1
              have ho261 : own m229 (me) ∧ tg229 (me) = 9 := Ex_o hx232 ⟨ho115.1, ho115.2⟩
              have ho262 : own m229 (cl) ∧ tg229 (cl) = 8 := Ex_o hx232 ⟨ho116.1, ho116.2⟩
              have y263 : la = 0 ∨ (own m229 (la) ∧ tg229 (la) = 8) := Ex_z hx232 yx_la
              have ho264 : own m229 (pa) ∧ tg229 (pa) = 7 := Ex_o hx232 ⟨ho122.1, ho122.2⟩
              have ho265 : own m229 (sc) ∧ tg229 (sc) = 11 := Ex_o hx232 ⟨ho117.1, ho117.2⟩
              have ho266 : own m229 (pg) ∧ tg229 (pg) = 10 := Ex_o hx232 ⟨ho118.1, ho118.2⟩
              have ho267 : own m229 (nm) ∧ tg229 (nm) = 7 := Ex_o hx232 ⟨ho119.1, ho119.2⟩
              have hX268 := Ex_t hXx hx232
              have w269 : WK F230 cl (21) := WK_q wx_cl hCx ho116.1 ho116.2 hM234 rfl
              have c270 : NM m m229 tg229 := NM_t cx_NM hx232 c244
              refine Or.inr (Or.inl ⟨_, rfl, ?_⟩)
              refine cx_vi (c := 6) (a := r231) (st := [rv (me)]) (as := []) rfl rfl rfl b235.1 b235.2 (by decide) rfl ⟨rfl, rfl, (by rw [jS_r, jS_0]; exact Nat.le_of_ble_eq_true rfl)⟩ rfl (k_LName_isChannel (dd := d) (R := R) (m := m229) (tg := tg229) (ln := ln229) (F := F230) (me := r231) (hd := by omega) (hC := hC233) (o_me := b235.1) (t_me := b235.2)) (fun o V_q hq => ?_)
              obtain ⟨r271, rfl, rfl, b272, -⟩ := hq
              refine Or.inr (Or.inl ⟨_, rfl, ?_⟩)
              have b273 : (0 : Int) ≤ Fx (me) (3 : Int) ∧ Fx (me) (3 : Int) ≤ 8 := by have z := HC_i (c := 8) (q := 3) hC233 ho261.1 ho261.2 (by decide) rfl; rw [show F230 (me) ((3 : Nat) : Int) = Fx (me) (3 : Int) from (show F230 (me) (3 : Int) = Fx (me) (3 : Int) from hM234 _ _ ho115.1 (own_z ho115.1) (by rw [ho115.2]; rfl))] at z; exact z
              have q274 : F230 (sc) (8 : Int) = Fx (sc) (8 : Int) := (show F230 (sc) (8 : Int) = Fx (sc) (8 : Int) from hM234 _ _ ho117.1 (own_z ho117.1) (by rw [ho117.2]; rfl))
              have q275 : F230 (sc) (15 : Int) = Fx (sc) (15 : Int) := (show F230 (sc) (15 : Int) = Fx (sc) (15 : Int) from hM234 _ _ ho117.1 (own_z ho117.1) (by rw [ho117.2]; rfl))
              have q276 : tz (F230 (sc) (15 : Int)) = tz (Fx (sc) (15 : Int)) := by rw [q275]
              have q277 := tz_b (Fx (sc) (15 : Int))
              have q278 : F230 (sc) (7 : Int) = F (sc) (7 : Int) := ((show F230 (sc) (7 : Int) = Fx (sc) (7 : Int) from hM234 _ _ ho117.1 (own_z ho117.1) (by rw [ho117.2]; rfl)).trans (show Fx (sc) (7 : Int) = F (sc) (7 : Int) from hMx _ _ o_sc (fun w => by have q1 := ho265.2; rw [w, ho262.2] at q1; exact absurd q1 (by decide)) (by rw [t_sc]; rfl)))
              have q279 : F230 (sc) (14 : Int) = Fx (sc) (14 : Int) := (show F230 (sc) (14 : Int) = Fx (sc) (14 : Int) from hM234 _ _ ho117.1 (own_z ho117.1) (by rw [ho117.2]; rfl))
              have q280 : lz (F230 (sc) (14 : Int)) = lz (Fx (sc) (14 : Int)) := by rw [q279]
              have q281 := lz_b (Fx (sc) (14 : Int))
              have q282 : F230 (me) (3 : Int) = Fx (me) (3 : Int) := (show F230 (me) (3 : Int) = Fx (me) (3 : Int) from hM234 _ _ ho115.1 (own_z ho115.1) (by rw [ho115.2]; rfl))
              have q283 : F230 (pg) (9 : Int) = Fx (pg) (9 : Int) := (show F230 (pg) (9 : Int) = Fx (pg) (9 : Int) from hM234 _ _ ho118.1 (own_z ho118.1) (by rw [ho118.2]; rfl))
              refine cx_vi (c := 8) (a := me) (st := []) (as := [.int (i32 (r271))]) rfl rfl rfl ho261.1 ho261.2 (by decide) rfl ⟨rfl, rfl, (Nat.le_of_ble_eq_true rfl)⟩ rfl (k_LParser_judged (dd := d) (R := R) (m := m229) (tg := tg229) (ln := ln229) (F := F230) (kk := 9) (hE := fun _ => PEx_all X _) (me := me) (wa := r271) (hd := by omega) (hC := hC233) (o_me := ho261.1) (t_me := ho261.2) (h_wa := by omega) (sc := sc) (pg := pg) (o_sc := ho265.1) (t_sc := ho265.2) (e_sc := (((show F230 (me) (1 : Int) = Fx (me) (1 : Int) from hM234 _ _ ho115.1 (own_z ho115.1) (by rw [ho115.2]; rfl)).trans (show Fx (me) (1 : Int) = F (me) (1 : Int) from hMx _ _ o_me (fun w => by have q1 := ho261.2; rw [w, ho262.2] at q1; exact absurd q1 (by decide)) (by rw [t_me]; rfl))).trans e_sc)) (o_pg := ho266.1) (t_pg := ho266.2) (e_pg := (((show F230 (me) (0 : Int) = Fx (me) (0 : Int) from hM234 _ _ ho115.1 (own_z ho115.1) (by rw [ho115.2]; rfl)).trans (show Fx (me) (0 : Int) = F (me) (0 : Int) from hMx _ _ o_me (fun w => by have q1 := ho261.2; rw [w, ho262.2] at q1; exact absurd q1 (by decide)) (by rw [t_me]; rfl))).trans e_pg)) (p_0 := by omega) (p_1 := by omega) (p_2 := by omega) (p_3 := by omega) (p_4 := by omega) (c_NP := c243)) (fun o V_q hq => ?_)
              obtain ⟨m284, tg284, ln284, F285, r286, rfl, rfl, hx287, hC288, hM289, b290, p291, p292, p293, p294, p295, p296, p297, p298, p299, p300, p301, p302, c303, c304, -⟩ | ⟨m305, tg305, ln305, F305, x305, rfl, rfl, hx305, hC305, hM305, ho305, ht305, p306, p307, p308, p309, c310, c311, -⟩ := hq
              rotate_left
              ·
                have c312 : NM m m305 tg305 := NM_t c270 hx305 c311
                have lm313 := hx305.1
                refine Or.inr (Or.inr (Or.inr ⟨_, _, rfl, cx_exc (c := 15) ho305 ht305 (by decide), rfl, ?_⟩))
                have q314 : F230 (sc) (8 : Int) = Fx (sc) (8 : Int) := q274
                have q315 : F230 (sc) (7 : Int) = F (sc) (7 : Int) := q278
                exact Or.inr ⟨m305, tg305, ln305, F305, x305, rfl, rfl, Ex_t hX268 hx305, hC305, Fq_t (ln := ln) (ln1 := ln229) hM255 hX268 hM305 (by decide) (Or.inr (Or.inl rfl)), (And.intro ho305 ht305).1, (And.intro ho305 ht305).2, by omega, by omega, by omega, by omega, c310, c312, trivial⟩
              have hM316 : Fq cl [(9, 3), (10, 0), (10, 1), (10, 2), (10, 9), (11, 8), (11, 12), (11, 13), (11, 14), (11, 15), (11, 16), (11, 17), (11, 18)] m tg F F285 := Fq_t (ln := ln) (ln1 := ln229) hM255 hX268 hM289 (by decide) (Or.inr (Or.inl rfl))
              have lm317 := hx287.1
              have lt318 : cl < 64 + (m229 : Int) := ho262.1.2.1
              have lt319 : la < 64 + (m229 : Int) := by rcases y263 with w | w; (· omega); exact w.1.2.1
              have lt320 : pa < 64 + (m229 : Int) := ho264.1.2.1
              have lt321 : nm < 64 + (m229 : Int) := ho267.1.2.1
              have ho322 : own m284 (me) ∧ tg284 (me) = 9 := Ex_o hx287 ⟨ho261.1, ho261.2⟩
              have ho323 : own m284 (cl) ∧ tg284 (cl) = 8 := Ex_o hx287 ⟨ho262.1, ho262.2⟩
              have y324 : la = 0 ∨ (own m284 (la) ∧ tg284 (la) = 8) := Ex_z hx287 y263
              have ho325 : own m284 (pa) ∧ tg284 (pa) = 7 := Ex_o hx287 ⟨ho264.1, ho264.2⟩
              have ho326 : own m284 (sc) ∧ tg284 (sc) = 11 := Ex_o hx287 ⟨ho265.1, ho265.2⟩
              have ho327 : own m284 (pg) ∧ tg284 (pg) = 10 := Ex_o hx287 ⟨ho266.1, ho266.2⟩
              have ho328 : own m284 (nm) ∧ tg284 (nm) = 7 := Ex_o hx287 ⟨ho267.1, ho267.2⟩
              have hX329 := Ex_t hX268 hx287
              have w330 : WK F285 cl (21) := WK_q w269 hC233 ho262.1 ho262.2 hM289 rfl
              have q331 := p299.1
              have q332 := p299.2.1
              have q333 := p299.2.2.1
              have c334 : NM m m284 tg284 := NM_t c270 hx287 c304
              refine Or.inr (Or.inl ⟨_, rfl, ?_⟩)
              refine jx_ld (pc_q := 156) (l_q := jSto1 L129 5 (rv (r286))) (st_q := []) rfl (js_rv (by decide)) ?_
              obtain ⟨L335, eL335⟩ : ∃ q : jL, q = jSto1 L129 5 (rv (r286)) := ⟨_, rfl⟩
              rw [← eL335]
              have g336 : jGet L335 0 = some (rv (me)) := eL335 ▸ jg_nr (by decide) g130
              have g337 : jGet L335 1 = some (rv (cl)) := eL335 ▸ jg_nr (by decide) g131
              have g338 : jGet L335 2 = some (rv (la)) := eL335 ▸ jg_nr (by decide) g132
              have g339 : jGet L335 3 = some (rv (pa)) := eL335 ▸ jg_nr (by decide) g133
              have g340 : jGet L335 4 = some (.int (i32 (0))) := eL335 ▸ jg_ne (by decide) g134 rfl
              have g341 : jGet L335 5 = some (rv (r286)) := eL335 ▸ jg_eq
              clear eL335
              refine jx_go (tg := 184) rfl rfl ?_
              have q342 := tz_b (F285 (sc) (15 : Int))
              have q343 := lz_b (F285 (sc) (14 : Int))
              have q344 : F285 (cl) (0 : Int) = Fx (cl) (0 : Int) := ((show F285 (cl) (0 : Int) = F230 (cl) (0 : Int) from hM289 _ _ ho262.1 (own_z ho262.1) (by rw [ho262.2]; rfl)).trans (show F230 (cl) (0 : Int) = Fx (cl) (0 : Int) from hM234 _ _ ho116.1 (own_z ho116.1) (by rw [ho116.2]; rfl)))
              have q345 : F285 (cl) (3 : Int) = nm := (((show F285 (cl) (3 : Int) = F230 (cl) (3 : Int) from hM289 _ _ ho262.1 (own_z ho262.1) (by rw [ho262.2]; rfl)).trans (show F230 (cl) (3 : Int) = Fx (cl) (3 : Int) from hM234 _ _ ho116.1 (own_z ho116.1) (by rw [ho116.2]; rfl))).trans iv_9)
              exact k_LParser_readArguments_at_184 (X := X) (d := d) (R := R) (m := m) (tg := tg) (ln := ln) (F := F) (me := me) (cl := cl) (hd := hd) (hC := hC) (sc := sc) (pg := pg) (o_sc := o_sc) (t_sc := t_sc) (e_sc := e_sc) (o_pg := o_pg) (t_pg := t_pg) (e_pg := e_pg) (o_me := o_me) (t_me := t_me) (o_cl := o_cl) (t_cl := t_cl) (nm := nm) (o_nm := o_nm) (t_nm := t_nm) (p_0 := p_0) (p_1 := p_1) (p_2 := p_2) (p_3 := p_3) (p_4 := p_4) (p_5 := p_5) (p_6 := p_6) (p_7 := p_7) (p_8 := p_8) (p_9 := p_9) (p_10 := p_10) (p_11 := p_11) (c_NP := c_NP) (mm0 := mm0) (ih := ih) L335 m284 tg284 ln284 F285 (la) (pa) (r286) (by omega) g336 g337 g338 g339 g341 hX329 hC288 hM316 y324 (Or.inr ⟨ho325.1, ho325.2⟩) (Or.inr ⟨b290.1, b290.2⟩) (by omega) (by omega) (by omega) (by omega) (by omega) (by omega) (by omega) (by omega) (by omega) (by omega) (by omega) (by omega) (Or.inr ⟨pq.1, pq.2⟩) (Or.inl (by omega)) (by omega) (by omega) (by omega) (by omega) c303 c334 (WK_m w330 (by omega)) (WK_m p299 (by omega))
          · have _q := h159
            refine jx_ld (pc_q := 122) (l_q := L129) (st_q := [rv (me)]) rfl (jl_rvn g130) ?_
            refine jx_ld (pc_q := 123) (l_q := L129) (st_q := [rv (pa), rv (me)]) rfl (jl_rvn g133) ?_
            refine cx_gi (pc_q := 126) (c := 6) (q := 3) (v := F (pa) (3 : Int)) rfl rfl (by decide) (by decide) (Or.inl rfl) rfl ho122.1 ho122.2 (show Fx (pa) (3 : Int) = F (pa) (3 : Int) from hMx _ _ pq.1 (fun w => by have q1 := ho122.2; rw [w, ho116.2] at q1; exact absurd q1 (by decide)) (by rw [pq.2]; rfl)) ?_
            have b346 : (-2147483648 : Int) ≤ F (pa) (3 : Int) ∧ F (pa) (3 : Int) ≤ 2147483647 := by have z := HC_i (c := 6) (q := 3) hCx ho122.1 ho122.2 (by decide) rfl; rw [show Fx (pa) ((3 : Nat) : Int) = F (pa) (3 : Int) from (show Fx (pa) (3 : Int) = F (pa) (3 : Int) from hMx _ _ pq.1 (fun w => by have q1 := ho122.2; rw [w, ho116.2] at q1; exact absurd q1 (by decide)) (by rw [pq.2]; rfl))] at z; exact z
            have b347 : (0 : Int) ≤ Fx (me) (3 : Int) ∧ Fx (me) (3 : Int) ≤ 8 := by have z := HC_i (c := 8) (q := 3) hCx ho115.1 ho115.2 (by decide) rfl; exact z
            have q348 := tz_b (Fx (sc) (15 : Int))
            have q349 : Fx (sc) (7 : Int) = F (sc) (7 : Int) := (show Fx (sc) (7 : Int) = F (sc) (7 : Int) from hMx _ _ o_sc (fun w => by have q1 := ho117.2; rw [w, ho116.2] at q1; exact absurd q1 (by decide)) (by rw [t_sc]; rfl))
            have q350 := lz_b (Fx (sc) (14 : Int))
            refine cx_vi (c := 8) (a := me) (st := []) (as := [.int (i32 (F (pa) (3 : Int)))]) rfl rfl rfl ho115.1 ho115.2 (by decide) rfl ⟨rfl, rfl, (Nat.le_of_ble_eq_true rfl)⟩ rfl (k_LParser_readArray (dd := d) (R := R) (m := mx) (tg := tgx) (ln := lnx) (F := Fx) (me := me) (sz := F (pa) (3 : Int)) (hd := by omega) (hC := hCx) (o_me := ho115.1) (t_me := ho115.2) (h_sz := by omega) (sc := sc) (pg := pg) (o_sc := ho117.1) (t_sc := ho117.2) (e_sc := ((show Fx (me) (1 : Int) = F (me) (1 : Int) from hMx _ _ o_me (fun w => by have q1 := ho115.2; rw [w, ho116.2] at q1; exact absurd q1 (by decide)) (by rw [t_me]; rfl)).trans e_sc)) (o_pg := ho118.1) (t_pg := ho118.2) (e_pg := ((show Fx (me) (0 : Int) = F (me) (0 : Int) from hMx _ _ o_me (fun w => by have q1 := ho115.2; rw [w, ho116.2] at q1; exact absurd q1 (by decide)) (by rw [t_me]; rfl)).trans e_pg)) (p_0 := by omega) (p_1 := by omega) (p_2 := by omega) (p_3 := by omega) (c_NP := cx_NP)) (fun o V_q hq => ?_)
            obtain ⟨m351, tg351, ln351, F352, r353, rfl, rfl, hx354, hC355, hM356, b357, p358, p359, p360, p361, p362, p363, p364, p365, p366, p367, p368, p369, c370, c371, -⟩ | ⟨m372, tg372, ln372, F372, x372, rfl, rfl, hx372, hC372, hM372, ho372, ht372, p373, p374, p375, p376, c377, c378, -⟩ := hq
            rotate_left
            ·
              have c379 : NM m m372 tg372 := NM_t cx_NM hx372 c378
              have lm380 := hx372.1
              refine Or.inr (Or.inr (Or.inr ⟨_, _, rfl, cx_exc (c := 15) ho372 ht372 (by decide), rfl, ?_⟩))
              have q381 : Fx (sc) (7 : Int) = F (sc) (7 : Int) := (show Fx (sc) (7 : Int) = F (sc) (7 : Int) from hMx _ _ o_sc (fun w => by have q1 := ho117.2; rw [w, ho116.2] at q1; exact absurd q1 (by decide)) (by rw [t_sc]; rfl))
              exact Or.inr ⟨m372, tg372, ln372, F372, x372, rfl, rfl, Ex_t hXx hx372, hC372, Fq_t (ln := ln) (ln1 := lnx) hMx hXx hM372 (by decide) (Or.inr (Or.inl rfl)), (And.intro ho372 ht372).1, (And.intro ho372 ht372).2, by omega, by omega, by omega, by omega, c377, c379, trivial⟩
            have hM382 : Fq cl [(9, 3), (10, 0), (10, 1), (10, 2), (10, 9), (11, 8), (11, 12), (11, 13), (11, 14), (11, 15), (11, 16), (11, 17), (11, 18)] m tg F F352 := Fq_t (ln := ln) (ln1 := lnx) hMx hXx hM356 (by decide) (Or.inr (Or.inl rfl))
            have lm383 := hx354.1
            have lt384 : cl < 64 + (mx : Int) := ho116.1.2.1
            have lt385 : la < 64 + (mx : Int) := by rcases yx_la with w | w; (· omega); exact w.1.2.1
            have lt386 : pa < 64 + (mx : Int) := ho122.1.2.1
            have lt387 : nm < 64 + (mx : Int) := ho119.1.2.1
            have ho388 : own m351 (me) ∧ tg351 (me) = 9 := Ex_o hx354 ⟨ho115.1, ho115.2⟩
            have ho389 : own m351 (cl) ∧ tg351 (cl) = 8 := Ex_o hx354 ⟨ho116.1, ho116.2⟩
            have y390 : la = 0 ∨ (own m351 (la) ∧ tg351 (la) = 8) := Ex_z hx354 yx_la
            have ho391 : own m351 (pa) ∧ tg351 (pa) = 7 := Ex_o hx354 ⟨ho122.1, ho122.2⟩
            have ho392 : own m351 (sc) ∧ tg351 (sc) = 11 := Ex_o hx354 ⟨ho117.1, ho117.2⟩
            have ho393 : own m351 (pg) ∧ tg351 (pg) = 10 := Ex_o hx354 ⟨ho118.1, ho118.2⟩
            have ho394 : own m351 (nm) ∧ tg351 (nm) = 7 := Ex_o hx354 ⟨ho119.1, ho119.2⟩
            have hX395 := Ex_t hXx hx354
            have w396 : WK F352 cl (21) := WK_q wx_cl hCx ho116.1 ho116.2 hM356 rfl
            have q397 := p366.1
            have q398 := p366.2.1
            have q399 := p366.2.2.1
            have c400 : NM m m351 tg351 := NM_t cx_NM hx354 c371
            refine Or.inr (Or.inl ⟨_, rfl, ?_⟩)
            refine jx_ld (pc_q := 131) (l_q := jSto1 L129 5 (rv (r353))) (st_q := []) rfl (js_rv (by decide)) ?_
            obtain ⟨L401, eL401⟩ : ∃ q : jL, q = jSto1 L129 5 (rv (r353)) := ⟨_, rfl⟩
            rw [← eL401]
            have g402 : jGet L401 0 = some (rv (me)) := eL401 ▸ jg_nr (by decide) g130
            have g403 : jGet L401 1 = some (rv (cl)) := eL401 ▸ jg_nr (by decide) g131
            have g404 : jGet L401 2 = some (rv (la)) := eL401 ▸ jg_nr (by decide) g132
            have g405 : jGet L401 3 = some (rv (pa)) := eL401 ▸ jg_nr (by decide) g133
            have g406 : jGet L401 4 = some (.int (i32 (0))) := eL401 ▸ jg_ne (by decide) g134 rfl
            have g407 : jGet L401 5 = some (rv (r353)) := eL401 ▸ jg_eq
            clear eL401
            refine jx_go (tg := 184) rfl rfl ?_
            have q408 := tz_b (F352 (sc) (15 : Int))
            have q409 := lz_b (F352 (sc) (14 : Int))
            have q410 : F352 (me) (3 : Int) = Fx (me) (3 : Int) := (show F352 (me) (3 : Int) = Fx (me) (3 : Int) from hM356 _ _ ho115.1 (own_z ho115.1) (by rw [ho115.2]; rfl))
            have q411 : F352 (cl) (0 : Int) = Fx (cl) (0 : Int) := (show F352 (cl) (0 : Int) = Fx (cl) (0 : Int) from hM356 _ _ ho116.1 (own_z ho116.1) (by rw [ho116.2]; rfl))
            have q412 : F352 (cl) (3 : Int) = nm := ((show F352 (cl) (3 : Int) = Fx (cl) (3 : Int) from hM356 _ _ ho116.1 (own_z ho116.1) (by rw [ho116.2]; rfl)).trans iv_9)
            exact k_LParser_readArguments_at_184 (X := X) (d := d) (R := R) (m := m) (tg := tg) (ln := ln) (F := F) (me := me) (cl := cl) (hd := hd) (hC := hC) (sc := sc) (pg := pg) (o_sc := o_sc) (t_sc := t_sc) (e_sc := e_sc) (o_pg := o_pg) (t_pg := t_pg) (e_pg := e_pg) (o_me := o_me) (t_me := t_me) (o_cl := o_cl) (t_cl := t_cl) (nm := nm) (o_nm := o_nm) (t_nm := t_nm) (p_0 := p_0) (p_1 := p_1) (p_2 := p_2) (p_3 := p_3) (p_4 := p_4) (p_5 := p_5) (p_6 := p_6) (p_7 := p_7) (p_8 := p_8) (p_9 := p_9) (p_10 := p_10) (p_11 := p_11) (c_NP := c_NP) (mm0 := mm0) (ih := ih) L401 m351 tg351 ln351 F352 (la) (pa) (r353) (by omega) g402 g403 g404 g405 g407 hX395 hC355 hM382 y390 (Or.inr ⟨ho391.1, ho391.2⟩) (Or.inr ⟨b357.1, b357.2⟩) (by omega) (by omega) (by omega) (by omega) (by omega) (by omega) (by omega) (by omega) (by omega) (by omega) (by omega) (by omega) (Or.inr ⟨pq.1, pq.2⟩) (Or.inl (by omega)) (by omega) (by omega) (by omega) (by omega) c370 c400 (WK_m w396 (by omega)) (WK_m p366 (by omega))
        · have _q := h158
          exact absurd h158 (by omega)
    · have _q := h128
      refine jx_ar (pc_q := 66) (st_q := [.int (i32 (1))]) rfl rfl rfl rfl ?_
      refine jx_go (tg := 70) rfl rfl ?_
      refine jx_ld (pc_q := 72) (l_q := jSto1 L 4 (.int (i32 (1)))) (st_q := []) rfl rfl ?_
      obtain ⟨L413, eL413⟩ : ∃ q : jL, q = jSto1 L 4 (.int (i32 (1))) := ⟨_, rfl⟩
      rw [← eL413]
      have g414 : jGet L413 0 = some (rv (me)) := eL413 ▸ jg_nr (by decide) gL_0
      have g415 : jGet L413 1 = some (rv (cl)) := eL413 ▸ jg_nr (by decide) gL_1
      have g416 : jGet L413 2 = some (rv (la)) := eL413 ▸ jg_nr (by decide) gL_2
      have g417 : jGet L413 3 = some (rv (pa)) := eL413 ▸ jg_nr (by decide) gL_3
      have g418 : jGet L413 4 = some (.int (i32 (1))) := eL413 ▸ jg_eq
      clear eL413
      refine jx_ld (pc_q := 73) (l_q := L413) (st_q := [rv (me)]) rfl (jl_rvn g414) ?_
      refine cx_gr (pc_q := 76) (c := 8) (q := 1) (v := sc) rfl rfl (by decide) (by decide) rfl rfl ho115.1 ho115.2 ((show Fx (me) (1 : Int) = F (me) (1 : Int) from hMx _ _ o_me (fun w => by have q1 := ho115.2; rw [w, ho116.2] at q1; exact absurd q1 (by decide)) (by rw [t_me]; rfl)).trans e_sc) ?_
      refine cx_gi (pc_q := 79) (c := 10) (q := 15) (v := Fx (sc) (15 : Int)) rfl rfl (by decide) (by decide) (Or.inl rfl) rfl ho117.1 ho117.2 rfl ?_
      have b419 : (-2147483648 : Int) ≤ Fx (sc) (15 : Int) ∧ Fx (sc) (15 : Int) ≤ 2147483647 := by have z := HC_i (c := 10) (q := 15) hCx ho117.1 ho117.2 (by decide) rfl; rw [show Fx (sc) ((15 : Nat) : Int) = Fx (sc) (15 : Int) from rfl] at z; exact z
      refine jx_ar (pc_q := 81) (st_q := [.int (i32 (55)), .int (i32 (Fx (sc) (15 : Int)))]) rfl rfl rfl rfl ?_
      refine jx_icmp_eq (pc_q := 84) (tg := 100) rfl rfl rfl (by omega) (by omega) (by decide) (by decide) (fun h420 => ?_) (fun h420 => ?_)
      · have _q := h420
        have t421 : tz (Fx (sc) (15 : Int)) = 1 := tz_p (by omega)
        refine jx_ld (pc_q := 101) (l_q := L413) (st_q := [rv (me)]) rfl (jl_rvn g414) ?_
        refine jx_ar (pc_q := 102) (st_q := [.int (i32 (4)), rv (me)]) rfl rfl rfl rfl ?_
        refine jx_ld (pc_q := 103) (l_q := L413) (st_q := [rv (me), .int (i32 (4)), rv (me)]) rfl (jl_rvn g414) ?_
        refine cx_gr (pc_q := 106) (c := 8) (q := 1) (v := sc) rfl rfl (by decide) (by decide) rfl rfl ho115.1 ho115.2 ((show Fx (me) (1 : Int) = F (me) (1 : Int) from hMx _ _ o_me (fun w => by have q1 := ho115.2; rw [w, ho116.2] at q1; exact absurd q1 (by decide)) (by rw [t_me]; rfl)).trans e_sc) ?_
        refine cx_gi (pc_q := 109) (c := 10) (q := 16) (v := Fx (sc) (16 : Int)) rfl rfl (by decide) (by decide) (Or.inl rfl) rfl ho117.1 ho117.2 rfl ?_
        have b422 : (-2147483648 : Int) ≤ Fx (sc) (16 : Int) ∧ Fx (sc) (16 : Int) ≤ 2147483647 := by have z := HC_i (c := 10) (q := 16) hCx ho117.1 ho117.2 (by decide) rfl; rw [show Fx (sc) ((16 : Nat) : Int) = Fx (sc) (16 : Int) from rfl] at z; exact z
        have q423 : Fx (sc) (7 : Int) = F (sc) (7 : Int) := (show Fx (sc) (7 : Int) = F (sc) (7 : Int) from hMx _ _ o_sc (fun w => by have q1 := ho117.2; rw [w, ho116.2] at q1; exact absurd q1 (by decide)) (by rw [t_sc]; rfl))
        refine cx_vi (c := 8) (a := me) (st := []) (as := [.int (i32 (4)), .int (i32 (Fx (sc) (16 : Int)))]) rfl rfl rfl ho115.1 ho115.2 (by decide) rfl ⟨rfl, rfl, (Nat.le_of_ble_eq_true rfl)⟩ rfl (k_LParser_fail (dd := d) (R := R) (m := mx) (tg := tgx) (ln := lnx) (F := Fx) (me := me) (kd := 4) (pl := Fx (sc) (16 : Int)) (hd := by omega) (hC := hCx) (o_me := ho115.1) (t_me := ho115.2) (h_kd := by omega) (h_pl := by omega) (sc := sc) (pg := pg) (o_sc := ho117.1) (t_sc := ho117.2) (e_sc := ((show Fx (me) (1 : Int) = F (me) (1 : Int) from hMx _ _ o_me (fun w => by have q1 := ho115.2; rw [w, ho116.2] at q1; exact absurd q1 (by decide)) (by rw [t_me]; rfl)).trans e_sc)) (o_pg := ho118.1) (t_pg := ho118.2) (e_pg := ((show Fx (me) (0 : Int) = F (me) (0 : Int) from hMx _ _ o_me (fun w => by have q1 := ho115.2; rw [w, ho116.2] at q1; exact absurd q1 (by decide)) (by rw [t_me]; rfl)).trans e_pg)) (p_0 := by omega) (p_1 := by omega) (c_NP := cx_NP)) (fun o V_q hq => ?_)
        obtain ⟨m424, tg424, ln424, F425, rfl, rfl, hx426, hC427, hM428, p429, c430, c431, -⟩ | ⟨m432, tg432, ln432, F432, x432, rfl, rfl, hx432, hC432, hM432, ho432, ht432, p433, p434, p435, p436, c437, c438, -⟩ := hq
        rotate_left
        ·
          have c439 : NM m m432 tg432 := NM_t cx_NM hx432 c438
          have lm440 := hx432.1
          refine Or.inr (Or.inr (Or.inr ⟨_, _, rfl, cx_exc (c := 15) ho432 ht432 (by decide), rfl, ?_⟩))
          have q441 : Fx (sc) (7 : Int) = F (sc) (7 : Int) := (show Fx (sc) (7 : Int) = F (sc) (7 : Int) from hMx _ _ o_sc (fun w => by have q1 := ho117.2; rw [w, ho116.2] at q1; exact absurd q1 (by decide)) (by rw [t_sc]; rfl))
          exact Or.inr ⟨m432, tg432, ln432, F432, x432, rfl, rfl, Ex_t hXx hx432, hC432, Fq_t (ln := ln) (ln1 := lnx) hMx hXx hM432 (by decide) (Or.inr (Or.inl rfl)), (And.intro ho432 ht432).1, (And.intro ho432 ht432).2, by omega, by omega, by omega, by omega, c437, c439, trivial⟩
        exact p429.elim
      · have _q := h420
        refine jx_ld (pc_q := 86) (l_q := L413) (st_q := [.int (i32 (1))]) rfl (jl_iload g418) ?_
        refine jx_if_eq (pc_q := 89) (tg := 112) rfl rfl rfl (by decide) (by decide) (fun h442 => ?_) (fun h442 => ?_)
        · have _q := h442
          exact absurd h442 (by omega)
        · have _q := h442
          refine jx_ld (pc_q := 90) (l_q := L413) (st_q := [rv (me)]) rfl (jl_rvn g414) ?_
          refine cx_gr (pc_q := 93) (c := 8) (q := 1) (v := sc) rfl rfl (by decide) (by decide) rfl rfl ho115.1 ho115.2 ((show Fx (me) (1 : Int) = F (me) (1 : Int) from hMx _ _ o_me (fun w => by have q1 := ho115.2; rw [w, ho116.2] at q1; exact absurd q1 (by decide)) (by rw [t_me]; rfl)).trans e_sc) ?_
          refine cx_gi (pc_q := 96) (c := 10) (q := 15) (v := Fx (sc) (15 : Int)) rfl rfl (by decide) (by decide) (Or.inl rfl) rfl ho117.1 ho117.2 rfl ?_
          refine jx_ar (pc_q := 97) (st_q := [.int (i32 (2)), .int (i32 (Fx (sc) (15 : Int)))]) rfl rfl rfl rfl ?_
          refine jx_icmp_eq (pc_q := 100) (tg := 112) rfl rfl rfl (by omega) (by omega) (by decide) (by decide) (fun h443 => ?_) (fun h443 => ?_)
          · have _q := h443
            have t444 : tz (Fx (sc) (15 : Int)) = 1 := tz_p (by omega)
            refine jx_ld (pc_q := 113) (l_q := L413) (st_q := [rv (pa)]) rfl (jl_rvn g417) ?_
            refine cx_gi (pc_q := 116) (c := 6) (q := 0) (v := F (pa) (0 : Int)) rfl rfl (by decide) (by decide) (Or.inl rfl) rfl ho122.1 ho122.2 (show Fx (pa) (0 : Int) = F (pa) (0 : Int) from hMx _ _ pq.1 (fun w => by have q1 := ho122.2; rw [w, ho116.2] at q1; exact absurd q1 (by decide)) (by rw [pq.2]; rfl)) ?_
            refine jx_ar (pc_q := 118) (st_q := [.int (i32 (6)), .int (i32 (F (pa) (0 : Int)))]) rfl rfl rfl rfl ?_
            refine jx_icmp_ne (pc_q := 121) (tg := 134) rfl rfl rfl (by omega) (by omega) (by decide) (by decide) (fun h445 => ?_) (fun h445 => ?_)
            · have _q := h445
              refine jx_ld (pc_q := 135) (l_q := L413) (st_q := [rv (pa)]) rfl (jl_rvn g417) ?_
              refine cx_gi (pc_q := 138) (c := 6) (q := 0) (v := F (pa) (0 : Int)) rfl rfl (by decide) (by decide) (Or.inl rfl) rfl ho122.1 ho122.2 (show Fx (pa) (0 : Int) = F (pa) (0 : Int) from hMx _ _ pq.1 (fun w => by have q1 := ho122.2; rw [w, ho116.2] at q1; exact absurd q1 (by decide)) (by rw [pq.2]; rfl)) ?_
              refine jx_ar (pc_q := 140) (st_q := [.int (i32 (8)), .int (i32 (F (pa) (0 : Int)))]) rfl rfl rfl rfl ?_
              refine jx_icmp_ne (pc_q := 143) (tg := 159) rfl rfl rfl (by omega) (by omega) (by decide) (by decide) (fun h446 => ?_) (fun h446 => ?_)
              · have _q := h446
                refine jx_ld (pc_q := 161) (l_q := L413) (st_q := [.int (i32 (1))]) rfl (jl_iload g418) ?_
                refine jx_if_eq (pc_q := 164) (tg := 178) rfl rfl rfl (by decide) (by decide) (fun h447 => ?_) (fun h447 => ?_)
                · have _q := h447
                  exact absurd h447 (by omega)
                · have _q := h447
                  refine jx_ld (pc_q := 165) (l_q := L413) (st_q := [rv (me)]) rfl (jl_rvn g414) ?_
                  refine jx_ld (pc_q := 166) (l_q := L413) (st_q := [rv (me), rv (me)]) rfl (jl_rvn g414) ?_
                  have q448 := tz_b (Fx (sc) (15 : Int))
                  have q449 : Fx (sc) (7 : Int) = F (sc) (7 : Int) := (show Fx (sc) (7 : Int) = F (sc) (7 : Int) from hMx _ _ o_sc (fun w => by have q1 := ho117.2; rw [w, ho116.2] at q1; exact absurd q1 (by decide)) (by rw [t_sc]; rfl))
                  have q450 := lz_b (Fx (sc) (14 : Int))
                  refine cx_vi (c := 8) (a := me) (st := [rv (me)]) (as := []) rfl rfl rfl ho115.1 ho115.2 (by decide) rfl ⟨rfl, rfl, (by rw [jS_r, jS_0]; exact Nat.le_of_ble_eq_true rfl)⟩ rfl (k_LParser_known (dd := d) (R := R) (m := mx) (tg := tgx) (ln := lnx) (F := Fx) (me := me) (hd := by omega) (hC := hCx) (o_me := ho115.1) (t_me := ho115.2) (sc := sc) (pg := pg) (o_sc := ho117.1) (t_sc := ho117.2) (e_sc := ((show Fx (me) (1 : Int) = F (me) (1 : Int) from hMx _ _ o_me (fun w => by have q1 := ho115.2; rw [w, ho116.2] at q1; exact absurd q1 (by decide)) (by rw [t_me]; rfl)).trans e_sc)) (o_pg := ho118.1) (t_pg := ho118.2) (e_pg := ((show Fx (me) (0 : Int) = F (me) (0 : Int) from hMx _ _ o_me (fun w => by have q1 := ho115.2; rw [w, ho116.2] at q1; exact absurd q1 (by decide)) (by rw [t_me]; rfl)).trans e_pg)) (p_0 := by omega) (p_1 := by omega) (p_2 := by omega) (c_NP := cx_NP)) (fun o V_q hq => ?_)
                  obtain ⟨m451, tg451, ln451, F452, r453, rfl, rfl, hx454, hC455, hM456, b457, p458, p459, p460, p461, p462, p463, p464, c465, c466, -⟩ | ⟨m467, tg467, ln467, F467, x467, rfl, rfl, hx467, hC467, hM467, ho467, ht467, p468, p469, p470, p471, c472, c473, -⟩ := hq
                  rotate_left
                  ·
                    have c474 : NM m m467 tg467 := NM_t cx_NM hx467 c473
                    have lm475 := hx467.1
                    refine Or.inr (Or.inr (Or.inr ⟨_, _, rfl, cx_exc (c := 15) ho467 ht467 (by decide), rfl, ?_⟩))
                    have q476 : Fx (sc) (7 : Int) = F (sc) (7 : Int) := (show Fx (sc) (7 : Int) = F (sc) (7 : Int) from hMx _ _ o_sc (fun w => by have q1 := ho117.2; rw [w, ho116.2] at q1; exact absurd q1 (by decide)) (by rw [t_sc]; rfl))
                    exact Or.inr ⟨m467, tg467, ln467, F467, x467, rfl, rfl, Ex_t hXx hx467, hC467, Fq_t (ln := ln) (ln1 := lnx) hMx hXx hM467 (by decide) (Or.inr (Or.inl rfl)), (And.intro ho467 ht467).1, (And.intro ho467 ht467).2, by omega, by omega, by omega, by omega, c472, c474, trivial⟩
                  have hM477 : Fq cl [(9, 3), (10, 0), (10, 1), (10, 2), (10, 9), (11, 8), (11, 12), (11, 13), (11, 14), (11, 15), (11, 16), (11, 17), (11, 18)] m tg F F452 := Fq_t (ln := ln) (ln1 := lnx) hMx hXx hM456 (by decide) (Or.inr (Or.inl rfl))
                  have lm478 := hx454.1
                  have lt479 : cl < 64 + (mx : Int) := ho116.1.2.1
                  have lt480 : la < 64 + (mx : Int) := by rcases yx_la with w | w; (· omega); exact w.1.2.1
                  have lt481 : pa < 64 + (mx : Int) := ho122.1.2.1
                  have lt482 : nm < 64 + (mx : Int) := ho119.1.2.1
                  have ho483 : own m451 (me) ∧ tg451 (me) = 9 := Ex_o hx454 ⟨ho115.1, ho115.2⟩
                  have ho484 : own m451 (cl) ∧ tg451 (cl) = 8 := Ex_o hx454 ⟨ho116.1, ho116.2⟩
                  have y485 : la = 0 ∨ (own m451 (la) ∧ tg451 (la) = 8) := Ex_z hx454 yx_la
                  have ho486 : own m451 (pa) ∧ tg451 (pa) = 7 := Ex_o hx454 ⟨ho122.1, ho122.2⟩
                  have ho487 : own m451 (sc) ∧ tg451 (sc) = 11 := Ex_o hx454 ⟨ho117.1, ho117.2⟩
                  have ho488 : own m451 (pg) ∧ tg451 (pg) = 10 := Ex_o hx454 ⟨ho118.1, ho118.2⟩
                  have ho489 : own m451 (nm) ∧ tg451 (nm) = 7 := Ex_o hx454 ⟨ho119.1, ho119.2⟩
                  have hX490 := Ex_t hXx hx454
                  have w491 : WK F452 cl (21) := WK_q wx_cl hCx ho116.1 ho116.2 hM456 rfl
                  have c492 : NM m m451 tg451 := NM_t cx_NM hx454 c466
                  refine Or.inr (Or.inl ⟨_, rfl, ?_⟩)
                  refine cx_vi (c := 6) (a := r453) (st := [rv (me)]) (as := []) rfl rfl rfl b457.1 b457.2 (by decide) rfl ⟨rfl, rfl, (by rw [jS_r, jS_0]; exact Nat.le_of_ble_eq_true rfl)⟩ rfl (k_LName_isTarget (dd := d) (R := R) (m := m451) (tg := tg451) (ln := ln451) (F := F452) (me := r453) (hd := by omega) (hC := hC455) (o_me := b457.1) (t_me := b457.2)) (fun o V_q hq => ?_)
                  obtain ⟨r493, rfl, rfl, b494, -⟩ := hq
                  refine Or.inr (Or.inl ⟨_, rfl, ?_⟩)
                  have b495 : (0 : Int) ≤ Fx (me) (3 : Int) ∧ Fx (me) (3 : Int) ≤ 8 := by have z := HC_i (c := 8) (q := 3) hC455 ho483.1 ho483.2 (by decide) rfl; rw [show F452 (me) ((3 : Nat) : Int) = Fx (me) (3 : Int) from (show F452 (me) (3 : Int) = Fx (me) (3 : Int) from hM456 _ _ ho115.1 (own_z ho115.1) (by rw [ho115.2]; rfl))] at z; exact z
                  have q496 : F452 (sc) (8 : Int) = Fx (sc) (8 : Int) := (show F452 (sc) (8 : Int) = Fx (sc) (8 : Int) from hM456 _ _ ho117.1 (own_z ho117.1) (by rw [ho117.2]; rfl))
                  have q497 : F452 (sc) (15 : Int) = Fx (sc) (15 : Int) := (show F452 (sc) (15 : Int) = Fx (sc) (15 : Int) from hM456 _ _ ho117.1 (own_z ho117.1) (by rw [ho117.2]; rfl))
                  have q498 : tz (F452 (sc) (15 : Int)) = tz (Fx (sc) (15 : Int)) := by rw [q497]
                  have q499 := tz_b (Fx (sc) (15 : Int))
                  have q500 : F452 (sc) (7 : Int) = F (sc) (7 : Int) := ((show F452 (sc) (7 : Int) = Fx (sc) (7 : Int) from hM456 _ _ ho117.1 (own_z ho117.1) (by rw [ho117.2]; rfl)).trans (show Fx (sc) (7 : Int) = F (sc) (7 : Int) from hMx _ _ o_sc (fun w => by have q1 := ho487.2; rw [w, ho484.2] at q1; exact absurd q1 (by decide)) (by rw [t_sc]; rfl)))
                  have q501 : F452 (sc) (14 : Int) = Fx (sc) (14 : Int) := (show F452 (sc) (14 : Int) = Fx (sc) (14 : Int) from hM456 _ _ ho117.1 (own_z ho117.1) (by rw [ho117.2]; rfl))
                  have q502 : lz (F452 (sc) (14 : Int)) = lz (Fx (sc) (14 : Int)) := by rw [q501]
                  have q503 := lz_b (Fx (sc) (14 : Int))
                  have q504 : F452 (me) (3 : Int) = Fx (me) (3 : Int) := (show F452 (me) (3 : Int) = Fx (me) (3 : Int) from hM456 _ _ ho115.1 (own_z ho115.1) (by rw [ho115.2]; rfl))
                  have q505 : F452 (pg) (9 : Int) = Fx (pg) (9 : Int) := (show F452 (pg) (9 : Int) = Fx (pg) (9 : Int) from hM456 _ _ ho118.1 (own_z ho118.1) (by rw [ho118.2]; rfl))
                  refine cx_vi (c := 8) (a := me) (st := []) (as := [.int (i32 (r493))]) rfl rfl rfl ho483.1 ho483.2 (by decide) rfl ⟨rfl, rfl, (Nat.le_of_ble_eq_true rfl)⟩ rfl (k_LParser_judged (dd := d) (R := R) (m := m451) (tg := tg451) (ln := ln451) (F := F452) (kk := 9) (hE := fun _ => PEx_all X _) (me := me) (wa := r493) (hd := by omega) (hC := hC455) (o_me := ho483.1) (t_me := ho483.2) (h_wa := by omega) (sc := sc) (pg := pg) (o_sc := ho487.1) (t_sc := ho487.2) (e_sc := (((show F452 (me) (1 : Int) = Fx (me) (1 : Int) from hM456 _ _ ho115.1 (own_z ho115.1) (by rw [ho115.2]; rfl)).trans (show Fx (me) (1 : Int) = F (me) (1 : Int) from hMx _ _ o_me (fun w => by have q1 := ho483.2; rw [w, ho484.2] at q1; exact absurd q1 (by decide)) (by rw [t_me]; rfl))).trans e_sc)) (o_pg := ho488.1) (t_pg := ho488.2) (e_pg := (((show F452 (me) (0 : Int) = Fx (me) (0 : Int) from hM456 _ _ ho115.1 (own_z ho115.1) (by rw [ho115.2]; rfl)).trans (show Fx (me) (0 : Int) = F (me) (0 : Int) from hMx _ _ o_me (fun w => by have q1 := ho483.2; rw [w, ho484.2] at q1; exact absurd q1 (by decide)) (by rw [t_me]; rfl))).trans e_pg)) (p_0 := by omega) (p_1 := by omega) (p_2 := by omega) (p_3 := by omega) (p_4 := by omega) (c_NP := c465)) (fun o V_q hq => ?_)
                  obtain ⟨m506, tg506, ln506, F507, r508, rfl, rfl, hx509, hC510, hM511, b512, p513, p514, p515, p516, p517, p518, p519, p520, p521, p522, p523, p524, c525, c526, -⟩ | ⟨m527, tg527, ln527, F527, x527, rfl, rfl, hx527, hC527, hM527, ho527, ht527, p528, p529, p530, p531, c532, c533, -⟩ := hq
                  rotate_left
                  ·
                    have c534 : NM m m527 tg527 := NM_t c492 hx527 c533
                    have lm535 := hx527.1
                    refine Or.inr (Or.inr (Or.inr ⟨_, _, rfl, cx_exc (c := 15) ho527 ht527 (by decide), rfl, ?_⟩))
                    have q536 : F452 (sc) (8 : Int) = Fx (sc) (8 : Int) := q496
                    have q537 : F452 (sc) (7 : Int) = F (sc) (7 : Int) := q500
                    exact Or.inr ⟨m527, tg527, ln527, F527, x527, rfl, rfl, Ex_t hX490 hx527, hC527, Fq_t (ln := ln) (ln1 := ln451) hM477 hX490 hM527 (by decide) (Or.inr (Or.inl rfl)), (And.intro ho527 ht527).1, (And.intro ho527 ht527).2, by omega, by omega, by omega, by omega, c532, c534, trivial⟩
                  have hM538 : Fq cl [(9, 3), (10, 0), (10, 1), (10, 2), (10, 9), (11, 8), (11, 12), (11, 13), (11, 14), (11, 15), (11, 16), (11, 17), (11, 18)] m tg F F507 := Fq_t (ln := ln) (ln1 := ln451) hM477 hX490 hM511 (by decide) (Or.inr (Or.inl rfl))
                  have lm539 := hx509.1
                  have lt540 : cl < 64 + (m451 : Int) := ho484.1.2.1
                  have lt541 : la < 64 + (m451 : Int) := by rcases y485 with w | w; (· omega); exact w.1.2.1
                  have lt542 : pa < 64 + (m451 : Int) := ho486.1.2.1
                  have lt543 : nm < 64 + (m451 : Int) := ho489.1.2.1
                  have ho544 : own m506 (me) ∧ tg506 (me) = 9 := Ex_o hx509 ⟨ho483.1, ho483.2⟩
                  have ho545 : own m506 (cl) ∧ tg506 (cl) = 8 := Ex_o hx509 ⟨ho484.1, ho484.2⟩
                  have y546 : la = 0 ∨ (own m506 (la) ∧ tg506 (la) = 8) := Ex_z hx509 y485
                  have ho547 : own m506 (pa) ∧ tg506 (pa) = 7 := Ex_o hx509 ⟨ho486.1, ho486.2⟩
                  have ho548 : own m506 (sc) ∧ tg506 (sc) = 11 := Ex_o hx509 ⟨ho487.1, ho487.2⟩
                  have ho549 : own m506 (pg) ∧ tg506 (pg) = 10 := Ex_o hx509 ⟨ho488.1, ho488.2⟩
                  have ho550 : own m506 (nm) ∧ tg506 (nm) = 7 := Ex_o hx509 ⟨ho489.1, ho489.2⟩
                  have hX551 := Ex_t hX490 hx509
                  have w552 : WK F507 cl (21) := WK_q w491 hC455 ho484.1 ho484.2 hM511 rfl
                  have q553 := p521.1
                  have q554 := p521.2.1
                  have q555 := p521.2.2.1
                  have c556 : NM m m506 tg506 := NM_t c492 hx509 c526
                  refine Or.inr (Or.inl ⟨_, rfl, ?_⟩)
                  refine jx_go (tg := 182) rfl rfl ?_
                  refine jx_ld (pc_q := 184) (l_q := jSto1 L413 5 (rv (r508))) (st_q := []) rfl (js_rv (by decide)) ?_
                  obtain ⟨L557, eL557⟩ : ∃ q : jL, q = jSto1 L413 5 (rv (r508)) := ⟨_, rfl⟩
                  rw [← eL557]
                  have g558 : jGet L557 0 = some (rv (me)) := eL557 ▸ jg_nr (by decide) g414
                  have g559 : jGet L557 1 = some (rv (cl)) := eL557 ▸ jg_nr (by decide) g415
                  have g560 : jGet L557 2 = some (rv (la)) := eL557 ▸ jg_nr (by decide) g416
                  have g561 : jGet L557 3 = some (rv (pa)) := eL557 ▸ jg_nr (by decide) g417
                  have g562 : jGet L557 4 = some (.int (i32 (1))) := eL557 ▸ jg_ne (by decide) g418 rfl
                  have g563 : jGet L557 5 = some (rv (r508)) := eL557 ▸ jg_eq
                  clear eL557
                  have q564 := tz_b (F507 (sc) (15 : Int))
                  have q565 := lz_b (F507 (sc) (14 : Int))
                  have q566 : F507 (cl) (0 : Int) = Fx (cl) (0 : Int) := ((show F507 (cl) (0 : Int) = F452 (cl) (0 : Int) from hM511 _ _ ho484.1 (own_z ho484.1) (by rw [ho484.2]; rfl)).trans (show F452 (cl) (0 : Int) = Fx (cl) (0 : Int) from hM456 _ _ ho116.1 (own_z ho116.1) (by rw [ho116.2]; rfl)))
                  have q567 : F507 (cl) (3 : Int) = nm := (((show F507 (cl) (3 : Int) = F452 (cl) (3 : Int) from hM511 _ _ ho484.1 (own_z ho484.1) (by rw [ho484.2]; rfl)).trans (show F452 (cl) (3 : Int) = Fx (cl) (3 : Int) from hM456 _ _ ho116.1 (own_z ho116.1) (by rw [ho116.2]; rfl))).trans iv_9)
                  exact k_LParser_readArguments_at_184 (X := X) (d := d) (R := R) (m := m) (tg := tg) (ln := ln) (F := F) (me := me) (cl := cl) (hd := hd) (hC := hC) (sc := sc) (pg := pg) (o_sc := o_sc) (t_sc := t_sc) (e_sc := e_sc) (o_pg := o_pg) (t_pg := t_pg) (e_pg := e_pg) (o_me := o_me) (t_me := t_me) (o_cl := o_cl) (t_cl := t_cl) (nm := nm) (o_nm := o_nm) (t_nm := t_nm) (p_0 := p_0) (p_1 := p_1) (p_2 := p_2) (p_3 := p_3) (p_4 := p_4) (p_5 := p_5) (p_6 := p_6) (p_7 := p_7) (p_8 := p_8) (p_9 := p_9) (p_10 := p_10) (p_11 := p_11) (c_NP := c_NP) (mm0 := mm0) (ih := ih) L557 m506 tg506 ln506 F507 (la) (pa) (r508) (by omega) g558 g559 g560 g561 g563 hX551 hC510 hM538 y546 (Or.inr ⟨ho547.1, ho547.2⟩) (Or.inr ⟨b512.1, b512.2⟩) (by omega) (by omega) (by omega) (by omega) (by omega) (by omega) (by omega) (by omega) (by omega) (by omega) (by omega) (by omega) (Or.inr ⟨pq.1, pq.2⟩) (Or.inl (by omega)) (by omega) (by omega) (by omega) (by omega) c525 c556 (WK_m w552 (by omega)) (WK_m p521 (by omega))
              · have _q := h446
                refine jx_ld (pc_q := 144) (l_q := L413) (st_q := [rv (me)]) rfl (jl_rvn g414) ?_
                refine jx_ld (pc_q := 145) (l_q := L413) (st_q := [rv (me), rv (me)]) rfl (jl_rvn g414) ?_
                have q568 := tz_b (Fx (sc) (15 : Int))
                have q569 : Fx (sc) (7 : Int) = F (sc) (7 : Int) := (show Fx (sc) (7 : Int) = F (sc) (7 : Int) from hMx _ _ o_sc (fun w => by have q1 := ho117.2; rw [w, ho116.2] at q1; exact absurd q1 (by decide)) (by rw [t_sc]; rfl))
                have q570 := lz_b (Fx (sc) (14 : Int))
                refine cx_vi (c := 8) (a := me) (st := [rv (me)]) (as := []) rfl rfl rfl ho115.1 ho115.2 (by decide) rfl ⟨rfl, rfl, (by rw [jS_r, jS_0]; exact Nat.le_of_ble_eq_true rfl)⟩ rfl (k_LParser_known (dd := d) (R := R) (m := mx) (tg := tgx) (ln := lnx) (F := Fx) (me := me) (hd := by omega) (hC := hCx) (o_me := ho115.1) (t_me := ho115.2) (sc := sc) (pg := pg) (o_sc := ho117.1) (t_sc := ho117.2) (e_sc := ((show Fx (me) (1 : Int) = F (me) (1 : Int) from hMx _ _ o_me (fun w => by have q1 := ho115.2; rw [w, ho116.2] at q1; exact absurd q1 (by decide)) (by rw [t_me]; rfl)).trans e_sc)) (o_pg := ho118.1) (t_pg := ho118.2) (e_pg := ((show Fx (me) (0 : Int) = F (me) (0 : Int) from hMx _ _ o_me (fun w => by have q1 := ho115.2; rw [w, ho116.2] at q1; exact absurd q1 (by decide)) (by rw [t_me]; rfl)).trans e_pg)) (p_0 := by omega) (p_1 := by omega) (p_2 := by omega) (c_NP := cx_NP)) (fun o V_q hq => ?_)
                obtain ⟨m571, tg571, ln571, F572, r573, rfl, rfl, hx574, hC575, hM576, b577, p578, p579, p580, p581, p582, p583, p584, c585, c586, -⟩ | ⟨m587, tg587, ln587, F587, x587, rfl, rfl, hx587, hC587, hM587, ho587, ht587, p588, p589, p590, p591, c592, c593, -⟩ := hq
                rotate_left
                ·
                  have c594 : NM m m587 tg587 := NM_t cx_NM hx587 c593
                  have lm595 := hx587.1
                  refine Or.inr (Or.inr (Or.inr ⟨_, _, rfl, cx_exc (c := 15) ho587 ht587 (by decide), rfl, ?_⟩))
                  have q596 : Fx (sc) (7 : Int) = F (sc) (7 : Int) := (show Fx (sc) (7 : Int) = F (sc) (7 : Int) from hMx _ _ o_sc (fun w => by have q1 := ho117.2; rw [w, ho116.2] at q1; exact absurd q1 (by decide)) (by rw [t_sc]; rfl))
                  exact Or.inr ⟨m587, tg587, ln587, F587, x587, rfl, rfl, Ex_t hXx hx587, hC587, Fq_t (ln := ln) (ln1 := lnx) hMx hXx hM587 (by decide) (Or.inr (Or.inl rfl)), (And.intro ho587 ht587).1, (And.intro ho587 ht587).2, by omega, by omega, by omega, by omega, c592, c594, trivial⟩
                have hM597 : Fq cl [(9, 3), (10, 0), (10, 1), (10, 2), (10, 9), (11, 8), (11, 12), (11, 13), (11, 14), (11, 15), (11, 16), (11, 17), (11, 18)] m tg F F572 := Fq_t (ln := ln) (ln1 := lnx) hMx hXx hM576 (by decide) (Or.inr (Or.inl rfl))
                have lm598 := hx574.1
                have lt599 : cl < 64 + (mx : Int) := ho116.1.2.1
                have lt600 : la < 64 + (mx : Int) := by rcases yx_la with w | w; (· omega); exact w.1.2.1
                have lt601 : pa < 64 + (mx : Int) := ho122.1.2.1
                have lt602 : nm < 64 + (mx : Int) := ho119.1.2.1
                have ho603 : own m571 (me) ∧ tg571 (me) = 9 := Ex_o hx574 ⟨ho115.1, ho115.2⟩
                have ho604 : own m571 (cl) ∧ tg571 (cl) = 8 := Ex_o hx574 ⟨ho116.1, ho116.2⟩
                have y605 : la = 0 ∨ (own m571 (la) ∧ tg571 (la) = 8) := Ex_z hx574 yx_la
                have ho606 : own m571 (pa) ∧ tg571 (pa) = 7 := Ex_o hx574 ⟨ho122.1, ho122.2⟩
                have ho607 : own m571 (sc) ∧ tg571 (sc) = 11 := Ex_o hx574 ⟨ho117.1, ho117.2⟩
                have ho608 : own m571 (pg) ∧ tg571 (pg) = 10 := Ex_o hx574 ⟨ho118.1, ho118.2⟩
                have ho609 : own m571 (nm) ∧ tg571 (nm) = 7 := Ex_o hx574 ⟨ho119.1, ho119.2⟩
                have hX610 := Ex_t hXx hx574
                have w611 : WK F572 cl (21) := WK_q wx_cl hCx ho116.1 ho116.2 hM576 rfl
                have c612 : NM m m571 tg571 := NM_t cx_NM hx574 c586
                refine Or.inr (Or.inl ⟨_, rfl, ?_⟩)
                refine cx_vi (c := 6) (a := r573) (st := [rv (me)]) (as := []) rfl rfl rfl b577.1 b577.2 (by decide) rfl ⟨rfl, rfl, (by rw [jS_r, jS_0]; exact Nat.le_of_ble_eq_true rfl)⟩ rfl (k_LName_isChannel (dd := d) (R := R) (m := m571) (tg := tg571) (ln := ln571) (F := F572) (me := r573) (hd := by omega) (hC := hC575) (o_me := b577.1) (t_me := b577.2)) (fun o V_q hq => ?_)
                obtain ⟨r613, rfl, rfl, b614, -⟩ := hq
                refine Or.inr (Or.inl ⟨_, rfl, ?_⟩)
                have b615 : (0 : Int) ≤ Fx (me) (3 : Int) ∧ Fx (me) (3 : Int) ≤ 8 := by have z := HC_i (c := 8) (q := 3) hC575 ho603.1 ho603.2 (by decide) rfl; rw [show F572 (me) ((3 : Nat) : Int) = Fx (me) (3 : Int) from (show F572 (me) (3 : Int) = Fx (me) (3 : Int) from hM576 _ _ ho115.1 (own_z ho115.1) (by rw [ho115.2]; rfl))] at z; exact z
                have q616 : F572 (sc) (8 : Int) = Fx (sc) (8 : Int) := (show F572 (sc) (8 : Int) = Fx (sc) (8 : Int) from hM576 _ _ ho117.1 (own_z ho117.1) (by rw [ho117.2]; rfl))
                have q617 : F572 (sc) (15 : Int) = Fx (sc) (15 : Int) := (show F572 (sc) (15 : Int) = Fx (sc) (15 : Int) from hM576 _ _ ho117.1 (own_z ho117.1) (by rw [ho117.2]; rfl))
                have q618 : tz (F572 (sc) (15 : Int)) = tz (Fx (sc) (15 : Int)) := by rw [q617]
                have q619 := tz_b (Fx (sc) (15 : Int))
                have q620 : F572 (sc) (7 : Int) = F (sc) (7 : Int) := ((show F572 (sc) (7 : Int) = Fx (sc) (7 : Int) from hM576 _ _ ho117.1 (own_z ho117.1) (by rw [ho117.2]; rfl)).trans (show Fx (sc) (7 : Int) = F (sc) (7 : Int) from hMx _ _ o_sc (fun w => by have q1 := ho607.2; rw [w, ho604.2] at q1; exact absurd q1 (by decide)) (by rw [t_sc]; rfl)))
                have q621 : F572 (sc) (14 : Int) = Fx (sc) (14 : Int) := (show F572 (sc) (14 : Int) = Fx (sc) (14 : Int) from hM576 _ _ ho117.1 (own_z ho117.1) (by rw [ho117.2]; rfl))
                have q622 : lz (F572 (sc) (14 : Int)) = lz (Fx (sc) (14 : Int)) := by rw [q621]
                have q623 := lz_b (Fx (sc) (14 : Int))
                have q624 : F572 (me) (3 : Int) = Fx (me) (3 : Int) := (show F572 (me) (3 : Int) = Fx (me) (3 : Int) from hM576 _ _ ho115.1 (own_z ho115.1) (by rw [ho115.2]; rfl))
                have q625 : F572 (pg) (9 : Int) = Fx (pg) (9 : Int) := (show F572 (pg) (9 : Int) = Fx (pg) (9 : Int) from hM576 _ _ ho118.1 (own_z ho118.1) (by rw [ho118.2]; rfl))
                refine cx_vi (c := 8) (a := me) (st := []) (as := [.int (i32 (r613))]) rfl rfl rfl ho603.1 ho603.2 (by decide) rfl ⟨rfl, rfl, (Nat.le_of_ble_eq_true rfl)⟩ rfl (k_LParser_judged (dd := d) (R := R) (m := m571) (tg := tg571) (ln := ln571) (F := F572) (kk := 9) (hE := fun _ => PEx_all X _) (me := me) (wa := r613) (hd := by omega) (hC := hC575) (o_me := ho603.1) (t_me := ho603.2) (h_wa := by omega) (sc := sc) (pg := pg) (o_sc := ho607.1) (t_sc := ho607.2) (e_sc := (((show F572 (me) (1 : Int) = Fx (me) (1 : Int) from hM576 _ _ ho115.1 (own_z ho115.1) (by rw [ho115.2]; rfl)).trans (show Fx (me) (1 : Int) = F (me) (1 : Int) from hMx _ _ o_me (fun w => by have q1 := ho603.2; rw [w, ho604.2] at q1; exact absurd q1 (by decide)) (by rw [t_me]; rfl))).trans e_sc)) (o_pg := ho608.1) (t_pg := ho608.2) (e_pg := (((show F572 (me) (0 : Int) = Fx (me) (0 : Int) from hM576 _ _ ho115.1 (own_z ho115.1) (by rw [ho115.2]; rfl)).trans (show Fx (me) (0 : Int) = F (me) (0 : Int) from hMx _ _ o_me (fun w => by have q1 := ho603.2; rw [w, ho604.2] at q1; exact absurd q1 (by decide)) (by rw [t_me]; rfl))).trans e_pg)) (p_0 := by omega) (p_1 := by omega) (p_2 := by omega) (p_3 := by omega) (p_4 := by omega) (c_NP := c585)) (fun o V_q hq => ?_)
                obtain ⟨m626, tg626, ln626, F627, r628, rfl, rfl, hx629, hC630, hM631, b632, p633, p634, p635, p636, p637, p638, p639, p640, p641, p642, p643, p644, c645, c646, -⟩ | ⟨m647, tg647, ln647, F647, x647, rfl, rfl, hx647, hC647, hM647, ho647, ht647, p648, p649, p650, p651, c652, c653, -⟩ := hq
                rotate_left
                ·
                  have c654 : NM m m647 tg647 := NM_t c612 hx647 c653
                  have lm655 := hx647.1
                  refine Or.inr (Or.inr (Or.inr ⟨_, _, rfl, cx_exc (c := 15) ho647 ht647 (by decide), rfl, ?_⟩))
                  have q656 : F572 (sc) (8 : Int) = Fx (sc) (8 : Int) := q616
                  have q657 : F572 (sc) (7 : Int) = F (sc) (7 : Int) := q620
                  exact Or.inr ⟨m647, tg647, ln647, F647, x647, rfl, rfl, Ex_t hX610 hx647, hC647, Fq_t (ln := ln) (ln1 := ln571) hM597 hX610 hM647 (by decide) (Or.inr (Or.inl rfl)), (And.intro ho647 ht647).1, (And.intro ho647 ht647).2, by omega, by omega, by omega, by omega, c652, c654, trivial⟩
                have hM658 : Fq cl [(9, 3), (10, 0), (10, 1), (10, 2), (10, 9), (11, 8), (11, 12), (11, 13), (11, 14), (11, 15), (11, 16), (11, 17), (11, 18)] m tg F F627 := Fq_t (ln := ln) (ln1 := ln571) hM597 hX610 hM631 (by decide) (Or.inr (Or.inl rfl))
                have lm659 := hx629.1
                have lt660 : cl < 64 + (m571 : Int) := ho604.1.2.1
                have lt661 : la < 64 + (m571 : Int) := by rcases y605 with w | w; (· omega); exact w.1.2.1
                have lt662 : pa < 64 + (m571 : Int) := ho606.1.2.1
                have lt663 : nm < 64 + (m571 : Int) := ho609.1.2.1
                have ho664 : own m626 (me) ∧ tg626 (me) = 9 := Ex_o hx629 ⟨ho603.1, ho603.2⟩
                have ho665 : own m626 (cl) ∧ tg626 (cl) = 8 := Ex_o hx629 ⟨ho604.1, ho604.2⟩
                have y666 : la = 0 ∨ (own m626 (la) ∧ tg626 (la) = 8) := Ex_z hx629 y605
                have ho667 : own m626 (pa) ∧ tg626 (pa) = 7 := Ex_o hx629 ⟨ho606.1, ho606.2⟩
                have ho668 : own m626 (sc) ∧ tg626 (sc) = 11 := Ex_o hx629 ⟨ho607.1, ho607.2⟩
                have ho669 : own m626 (pg) ∧ tg626 (pg) = 10 := Ex_o hx629 ⟨ho608.1, ho608.2⟩
                have ho670 : own m626 (nm) ∧ tg626 (nm) = 7 := Ex_o hx629 ⟨ho609.1, ho609.2⟩
                have hX671 := Ex_t hX610 hx629
                have w672 : WK F627 cl (21) := WK_q w611 hC575 ho604.1 ho604.2 hM631 rfl
                have q673 := p641.1
                have q674 := p641.2.1
                have q675 := p641.2.2.1
                have c676 : NM m m626 tg626 := NM_t c612 hx629 c646
                refine Or.inr (Or.inl ⟨_, rfl, ?_⟩)
                refine jx_ld (pc_q := 156) (l_q := jSto1 L413 5 (rv (r628))) (st_q := []) rfl (js_rv (by decide)) ?_
                obtain ⟨L677, eL677⟩ : ∃ q : jL, q = jSto1 L413 5 (rv (r628)) := ⟨_, rfl⟩
                rw [← eL677]
                have g678 : jGet L677 0 = some (rv (me)) := eL677 ▸ jg_nr (by decide) g414
                have g679 : jGet L677 1 = some (rv (cl)) := eL677 ▸ jg_nr (by decide) g415
                have g680 : jGet L677 2 = some (rv (la)) := eL677 ▸ jg_nr (by decide) g416
                have g681 : jGet L677 3 = some (rv (pa)) := eL677 ▸ jg_nr (by decide) g417
                have g682 : jGet L677 4 = some (.int (i32 (1))) := eL677 ▸ jg_ne (by decide) g418 rfl
                have g683 : jGet L677 5 = some (rv (r628)) := eL677 ▸ jg_eq
                clear eL677
                refine jx_go (tg := 184) rfl rfl ?_
                have q684 := tz_b (F627 (sc) (15 : Int))
                have q685 := lz_b (F627 (sc) (14 : Int))
                have q686 : F627 (cl) (0 : Int) = Fx (cl) (0 : Int) := ((show F627 (cl) (0 : Int) = F572 (cl) (0 : Int) from hM631 _ _ ho604.1 (own_z ho604.1) (by rw [ho604.2]; rfl)).trans (show F572 (cl) (0 : Int) = Fx (cl) (0 : Int) from hM576 _ _ ho116.1 (own_z ho116.1) (by rw [ho116.2]; rfl)))
                have q687 : F627 (cl) (3 : Int) = nm := (((show F627 (cl) (3 : Int) = F572 (cl) (3 : Int) from hM631 _ _ ho604.1 (own_z ho604.1) (by rw [ho604.2]; rfl)).trans (show F572 (cl) (3 : Int) = Fx (cl) (3 : Int) from hM576 _ _ ho116.1 (own_z ho116.1) (by rw [ho116.2]; rfl))).trans iv_9)
                exact k_LParser_readArguments_at_184 (X := X) (d := d) (R := R) (m := m) (tg := tg) (ln := ln) (F := F) (me := me) (cl := cl) (hd := hd) (hC := hC) (sc := sc) (pg := pg) (o_sc := o_sc) (t_sc := t_sc) (e_sc := e_sc) (o_pg := o_pg) (t_pg := t_pg) (e_pg := e_pg) (o_me := o_me) (t_me := t_me) (o_cl := o_cl) (t_cl := t_cl) (nm := nm) (o_nm := o_nm) (t_nm := t_nm) (p_0 := p_0) (p_1 := p_1) (p_2 := p_2) (p_3 := p_3) (p_4 := p_4) (p_5 := p_5) (p_6 := p_6) (p_7 := p_7) (p_8 := p_8) (p_9 := p_9) (p_10 := p_10) (p_11 := p_11) (c_NP := c_NP) (mm0 := mm0) (ih := ih) L677 m626 tg626 ln626 F627 (la) (pa) (r628) (by omega) g678 g679 g680 g681 g683 hX671 hC630 hM658 y666 (Or.inr ⟨ho667.1, ho667.2⟩) (Or.inr ⟨b632.1, b632.2⟩) (by omega) (by omega) (by omega) (by omega) (by omega) (by omega) (by omega) (by omega) (by omega) (by omega) (by omega) (by omega) (Or.inr ⟨pq.1, pq.2⟩) (Or.inl (by omega)) (by omega) (by omega) (by omega) (by omega) c645 c676 (WK_m w672 (by omega)) (WK_m p641 (by omega))
            · have _q := h445
              refine jx_ld (pc_q := 122) (l_q := L413) (st_q := [rv (me)]) rfl (jl_rvn g414) ?_
              refine jx_ld (pc_q := 123) (l_q := L413) (st_q := [rv (pa), rv (me)]) rfl (jl_rvn g417) ?_
              refine cx_gi (pc_q := 126) (c := 6) (q := 3) (v := F (pa) (3 : Int)) rfl rfl (by decide) (by decide) (Or.inl rfl) rfl ho122.1 ho122.2 (show Fx (pa) (3 : Int) = F (pa) (3 : Int) from hMx _ _ pq.1 (fun w => by have q1 := ho122.2; rw [w, ho116.2] at q1; exact absurd q1 (by decide)) (by rw [pq.2]; rfl)) ?_
              have b688 : (-2147483648 : Int) ≤ F (pa) (3 : Int) ∧ F (pa) (3 : Int) ≤ 2147483647 := by have z := HC_i (c := 6) (q := 3) hCx ho122.1 ho122.2 (by decide) rfl; rw [show Fx (pa) ((3 : Nat) : Int) = F (pa) (3 : Int) from (show Fx (pa) (3 : Int) = F (pa) (3 : Int) from hMx _ _ pq.1 (fun w => by have q1 := ho122.2; rw [w, ho116.2] at q1; exact absurd q1 (by decide)) (by rw [pq.2]; rfl))] at z; exact z
              have b689 : (0 : Int) ≤ Fx (me) (3 : Int) ∧ Fx (me) (3 : Int) ≤ 8 := by have z := HC_i (c := 8) (q := 3) hCx ho115.1 ho115.2 (by decide) rfl; exact z
              have q690 := tz_b (Fx (sc) (15 : Int))
              have q691 : Fx (sc) (7 : Int) = F (sc) (7 : Int) := (show Fx (sc) (7 : Int) = F (sc) (7 : Int) from hMx _ _ o_sc (fun w => by have q1 := ho117.2; rw [w, ho116.2] at q1; exact absurd q1 (by decide)) (by rw [t_sc]; rfl))
              have q692 := lz_b (Fx (sc) (14 : Int))
              refine cx_vi (c := 8) (a := me) (st := []) (as := [.int (i32 (F (pa) (3 : Int)))]) rfl rfl rfl ho115.1 ho115.2 (by decide) rfl ⟨rfl, rfl, (Nat.le_of_ble_eq_true rfl)⟩ rfl (k_LParser_readArray (dd := d) (R := R) (m := mx) (tg := tgx) (ln := lnx) (F := Fx) (me := me) (sz := F (pa) (3 : Int)) (hd := by omega) (hC := hCx) (o_me := ho115.1) (t_me := ho115.2) (h_sz := by omega) (sc := sc) (pg := pg) (o_sc := ho117.1) (t_sc := ho117.2) (e_sc := ((show Fx (me) (1 : Int) = F (me) (1 : Int) from hMx _ _ o_me (fun w => by have q1 := ho115.2; rw [w, ho116.2] at q1; exact absurd q1 (by decide)) (by rw [t_me]; rfl)).trans e_sc)) (o_pg := ho118.1) (t_pg := ho118.2) (e_pg := ((show Fx (me) (0 : Int) = F (me) (0 : Int) from hMx _ _ o_me (fun w => by have q1 := ho115.2; rw [w, ho116.2] at q1; exact absurd q1 (by decide)) (by rw [t_me]; rfl)).trans e_pg)) (p_0 := by omega) (p_1 := by omega) (p_2 := by omega) (p_3 := by omega) (c_NP := cx_NP)) (fun o V_q hq => ?_)
              obtain ⟨m693, tg693, ln693, F694, r695, rfl, rfl, hx696, hC697, hM698, b699, p700, p701, p702, p703, p704, p705, p706, p707, p708, p709, p710, p711, c712, c713, -⟩ | ⟨m714, tg714, ln714, F714, x714, rfl, rfl, hx714, hC714, hM714, ho714, ht714, p715, p716, p717, p718, c719, c720, -⟩ := hq
              rotate_left
              ·
                have c721 : NM m m714 tg714 := NM_t cx_NM hx714 c720
                have lm722 := hx714.1
                refine Or.inr (Or.inr (Or.inr ⟨_, _, rfl, cx_exc (c := 15) ho714 ht714 (by decide), rfl, ?_⟩))
                have q723 : Fx (sc) (7 : Int) = F (sc) (7 : Int) := (show Fx (sc) (7 : Int) = F (sc) (7 : Int) from hMx _ _ o_sc (fun w => by have q1 := ho117.2; rw [w, ho116.2] at q1; exact absurd q1 (by decide)) (by rw [t_sc]; rfl))
                exact Or.inr ⟨m714, tg714, ln714, F714, x714, rfl, rfl, Ex_t hXx hx714, hC714, Fq_t (ln := ln) (ln1 := lnx) hMx hXx hM714 (by decide) (Or.inr (Or.inl rfl)), (And.intro ho714 ht714).1, (And.intro ho714 ht714).2, by omega, by omega, by omega, by omega, c719, c721, trivial⟩
              have hM724 : Fq cl [(9, 3), (10, 0), (10, 1), (10, 2), (10, 9), (11, 8), (11, 12), (11, 13), (11, 14), (11, 15), (11, 16), (11, 17), (11, 18)] m tg F F694 := Fq_t (ln := ln) (ln1 := lnx) hMx hXx hM698 (by decide) (Or.inr (Or.inl rfl))
              have lm725 := hx696.1
              have lt726 : cl < 64 + (mx : Int) := ho116.1.2.1
              have lt727 : la < 64 + (mx : Int) := by rcases yx_la with w | w; (· omega); exact w.1.2.1
              have lt728 : pa < 64 + (mx : Int) := ho122.1.2.1
              have lt729 : nm < 64 + (mx : Int) := ho119.1.2.1
              have ho730 : own m693 (me) ∧ tg693 (me) = 9 := Ex_o hx696 ⟨ho115.1, ho115.2⟩
              have ho731 : own m693 (cl) ∧ tg693 (cl) = 8 := Ex_o hx696 ⟨ho116.1, ho116.2⟩
              have y732 : la = 0 ∨ (own m693 (la) ∧ tg693 (la) = 8) := Ex_z hx696 yx_la
              have ho733 : own m693 (pa) ∧ tg693 (pa) = 7 := Ex_o hx696 ⟨ho122.1, ho122.2⟩
              have ho734 : own m693 (sc) ∧ tg693 (sc) = 11 := Ex_o hx696 ⟨ho117.1, ho117.2⟩
              have ho735 : own m693 (pg) ∧ tg693 (pg) = 10 := Ex_o hx696 ⟨ho118.1, ho118.2⟩
              have ho736 : own m693 (nm) ∧ tg693 (nm) = 7 := Ex_o hx696 ⟨ho119.1, ho119.2⟩
              have hX737 := Ex_t hXx hx696
              have w738 : WK F694 cl (21) := WK_q wx_cl hCx ho116.1 ho116.2 hM698 rfl
              have q739 := p708.1
              have q740 := p708.2.1
              have q741 := p708.2.2.1
              have c742 : NM m m693 tg693 := NM_t cx_NM hx696 c713
              refine Or.inr (Or.inl ⟨_, rfl, ?_⟩)
              refine jx_ld (pc_q := 131) (l_q := jSto1 L413 5 (rv (r695))) (st_q := []) rfl (js_rv (by decide)) ?_
              obtain ⟨L743, eL743⟩ : ∃ q : jL, q = jSto1 L413 5 (rv (r695)) := ⟨_, rfl⟩
              rw [← eL743]
              have g744 : jGet L743 0 = some (rv (me)) := eL743 ▸ jg_nr (by decide) g414
              have g745 : jGet L743 1 = some (rv (cl)) := eL743 ▸ jg_nr (by decide) g415
              have g746 : jGet L743 2 = some (rv (la)) := eL743 ▸ jg_nr (by decide) g416
              have g747 : jGet L743 3 = some (rv (pa)) := eL743 ▸ jg_nr (by decide) g417
              have g748 : jGet L743 4 = some (.int (i32 (1))) := eL743 ▸ jg_ne (by decide) g418 rfl
              have g749 : jGet L743 5 = some (rv (r695)) := eL743 ▸ jg_eq
              clear eL743
              refine jx_go (tg := 184) rfl rfl ?_
              have q750 := tz_b (F694 (sc) (15 : Int))
              have q751 := lz_b (F694 (sc) (14 : Int))
              have q752 : F694 (me) (3 : Int) = Fx (me) (3 : Int) := (show F694 (me) (3 : Int) = Fx (me) (3 : Int) from hM698 _ _ ho115.1 (own_z ho115.1) (by rw [ho115.2]; rfl))
              have q753 : F694 (cl) (0 : Int) = Fx (cl) (0 : Int) := (show F694 (cl) (0 : Int) = Fx (cl) (0 : Int) from hM698 _ _ ho116.1 (own_z ho116.1) (by rw [ho116.2]; rfl))
              have q754 : F694 (cl) (3 : Int) = nm := ((show F694 (cl) (3 : Int) = Fx (cl) (3 : Int) from hM698 _ _ ho116.1 (own_z ho116.1) (by rw [ho116.2]; rfl)).trans iv_9)
              exact k_LParser_readArguments_at_184 (X := X) (d := d) (R := R) (m := m) (tg := tg) (ln := ln) (F := F) (me := me) (cl := cl) (hd := hd) (hC := hC) (sc := sc) (pg := pg) (o_sc := o_sc) (t_sc := t_sc) (e_sc := e_sc) (o_pg := o_pg) (t_pg := t_pg) (e_pg := e_pg) (o_me := o_me) (t_me := t_me) (o_cl := o_cl) (t_cl := t_cl) (nm := nm) (o_nm := o_nm) (t_nm := t_nm) (p_0 := p_0) (p_1 := p_1) (p_2 := p_2) (p_3 := p_3) (p_4 := p_4) (p_5 := p_5) (p_6 := p_6) (p_7 := p_7) (p_8 := p_8) (p_9 := p_9) (p_10 := p_10) (p_11 := p_11) (c_NP := c_NP) (mm0 := mm0) (ih := ih) L743 m693 tg693 ln693 F694 (la) (pa) (r695) (by omega) g744 g745 g746 g747 g749 hX737 hC697 hM724 y732 (Or.inr ⟨ho733.1, ho733.2⟩) (Or.inr ⟨b699.1, b699.2⟩) (by omega) (by omega) (by omega) (by omega) (by omega) (by omega) (by omega) (by omega) (by omega) (by omega) (by omega) (by omega) (Or.inr ⟨pq.1, pq.2⟩) (Or.inl (by omega)) (by omega) (by omega) (by omega) (by omega) c712 c742 (WK_m w738 (by omega)) (WK_m p708 (by omega))
          · have _q := h443
            refine jx_ld (pc_q := 101) (l_q := L413) (st_q := [rv (me)]) rfl (jl_rvn g414) ?_
            refine jx_ar (pc_q := 102) (st_q := [.int (i32 (4)), rv (me)]) rfl rfl rfl rfl ?_
            refine jx_ld (pc_q := 103) (l_q := L413) (st_q := [rv (me), .int (i32 (4)), rv (me)]) rfl (jl_rvn g414) ?_
            refine cx_gr (pc_q := 106) (c := 8) (q := 1) (v := sc) rfl rfl (by decide) (by decide) rfl rfl ho115.1 ho115.2 ((show Fx (me) (1 : Int) = F (me) (1 : Int) from hMx _ _ o_me (fun w => by have q1 := ho115.2; rw [w, ho116.2] at q1; exact absurd q1 (by decide)) (by rw [t_me]; rfl)).trans e_sc) ?_
            refine cx_gi (pc_q := 109) (c := 10) (q := 16) (v := Fx (sc) (16 : Int)) rfl rfl (by decide) (by decide) (Or.inl rfl) rfl ho117.1 ho117.2 rfl ?_
            have b755 : (-2147483648 : Int) ≤ Fx (sc) (16 : Int) ∧ Fx (sc) (16 : Int) ≤ 2147483647 := by have z := HC_i (c := 10) (q := 16) hCx ho117.1 ho117.2 (by decide) rfl; rw [show Fx (sc) ((16 : Nat) : Int) = Fx (sc) (16 : Int) from rfl] at z; exact z
            have q756 : Fx (sc) (7 : Int) = F (sc) (7 : Int) := (show Fx (sc) (7 : Int) = F (sc) (7 : Int) from hMx _ _ o_sc (fun w => by have q1 := ho117.2; rw [w, ho116.2] at q1; exact absurd q1 (by decide)) (by rw [t_sc]; rfl))
            refine cx_vi (c := 8) (a := me) (st := []) (as := [.int (i32 (4)), .int (i32 (Fx (sc) (16 : Int)))]) rfl rfl rfl ho115.1 ho115.2 (by decide) rfl ⟨rfl, rfl, (Nat.le_of_ble_eq_true rfl)⟩ rfl (k_LParser_fail (dd := d) (R := R) (m := mx) (tg := tgx) (ln := lnx) (F := Fx) (me := me) (kd := 4) (pl := Fx (sc) (16 : Int)) (hd := by omega) (hC := hCx) (o_me := ho115.1) (t_me := ho115.2) (h_kd := by omega) (h_pl := by omega) (sc := sc) (pg := pg) (o_sc := ho117.1) (t_sc := ho117.2) (e_sc := ((show Fx (me) (1 : Int) = F (me) (1 : Int) from hMx _ _ o_me (fun w => by have q1 := ho115.2; rw [w, ho116.2] at q1; exact absurd q1 (by decide)) (by rw [t_me]; rfl)).trans e_sc)) (o_pg := ho118.1) (t_pg := ho118.2) (e_pg := ((show Fx (me) (0 : Int) = F (me) (0 : Int) from hMx _ _ o_me (fun w => by have q1 := ho115.2; rw [w, ho116.2] at q1; exact absurd q1 (by decide)) (by rw [t_me]; rfl)).trans e_pg)) (p_0 := by omega) (p_1 := by omega) (c_NP := cx_NP)) (fun o V_q hq => ?_)
            obtain ⟨m757, tg757, ln757, F758, rfl, rfl, hx759, hC760, hM761, p762, c763, c764, -⟩ | ⟨m765, tg765, ln765, F765, x765, rfl, rfl, hx765, hC765, hM765, ho765, ht765, p766, p767, p768, p769, c770, c771, -⟩ := hq
            rotate_left
            ·
              have c772 : NM m m765 tg765 := NM_t cx_NM hx765 c771
              have lm773 := hx765.1
              refine Or.inr (Or.inr (Or.inr ⟨_, _, rfl, cx_exc (c := 15) ho765 ht765 (by decide), rfl, ?_⟩))
              have q774 : Fx (sc) (7 : Int) = F (sc) (7 : Int) := (show Fx (sc) (7 : Int) = F (sc) (7 : Int) from hMx _ _ o_sc (fun w => by have q1 := ho117.2; rw [w, ho116.2] at q1; exact absurd q1 (by decide)) (by rw [t_sc]; rfl))
              exact Or.inr ⟨m765, tg765, ln765, F765, x765, rfl, rfl, Ex_t hXx hx765, hC765, Fq_t (ln := ln) (ln1 := lnx) hMx hXx hM765 (by decide) (Or.inr (Or.inl rfl)), (And.intro ho765 ht765).1, (And.intro ho765 ht765).2, by omega, by omega, by omega, by omega, c770, c772, trivial⟩
            exact p762.elim
  · have _q := h126
    have ho775 : own mx (la) ∧ tgx (la) = 8 := yx_la.resolve_left h126
    have pq := iv_12.resolve_left (by omega)
    have pz := mz_a hC c_NP.1 pq.1 pq.2
    refine jx_ld (pc_q := 58) (l_q := L) (st_q := [rv (pa)]) rfl (jl_rvn gL_3) ?_
    refine cx_gi (pc_q := 61) (c := 6) (q := 0) (v := F (pa) (0 : Int)) rfl rfl (by decide) (by decide) (Or.inl rfl) rfl ho122.1 ho122.2 (show Fx (pa) (0 : Int) = F (pa) (0 : Int) from hMx _ _ pq.1 (fun w => by have q1 := ho122.2; rw [w, ho116.2] at q1; exact absurd q1 (by decide)) (by rw [pq.2]; rfl)) ?_
    have b776 : (-2147483648 : Int) ≤ F (pa) (0 : Int) ∧ F (pa) (0 : Int) ≤ 2147483647 := by have z := HC_i (c := 6) (q := 0) hCx ho122.1 ho122.2 (by decide) rfl; rw [show Fx (pa) ((0 : Nat) : Int) = F (pa) (0 : Int) from (show Fx (pa) (0 : Int) = F (pa) (0 : Int) from hMx _ _ pq.1 (fun w => by have q1 := ho122.2; rw [w, ho116.2] at q1; exact absurd q1 (by decide)) (by rw [pq.2]; rfl))] at z; exact z
    refine jx_ar (pc_q := 62) (st_q := [.int (i32 (1)), .int (i32 (F (pa) (0 : Int)))]) rfl rfl rfl rfl ?_
    refine jx_icmp_eq (pc_q := 65) (tg := 69) rfl rfl rfl (by omega) (by omega) (by decide) (by decide) (fun h777 => ?_) (fun h777 => ?_)
    · have _q := h777
      refine jx_ar (pc_q := 70) (st_q := [.int (i32 (0))]) rfl rfl rfl rfl ?_
      refine jx_ld (pc_q := 72) (l_q := jSto1 L 4 (.int (i32 (0)))) (st_q := []) rfl rfl ?_
      obtain ⟨L778, eL778⟩ : ∃ q : jL, q = jSto1 L 4 (.int (i32 (0))) := ⟨_, rfl⟩
      rw [← eL778]
      have g779 : jGet L778 0 = some (rv (me)) := eL778 ▸ jg_nr (by decide) gL_0
      have g780 : jGet L778 1 = some (rv (cl)) := eL778 ▸ jg_nr (by decide) gL_1
      have g781 : jGet L778 2 = some (rv (la)) := eL778 ▸ jg_nr (by decide) gL_2
      have g782 : jGet L778 3 = some (rv (pa)) := eL778 ▸ jg_nr (by decide) gL_3
      have g783 : jGet L778 4 = some (.int (i32 (0))) := eL778 ▸ jg_eq
      clear eL778
      refine jx_ld (pc_q := 73) (l_q := L778) (st_q := [rv (me)]) rfl (jl_rvn g779) ?_
      refine cx_gr (pc_q := 76) (c := 8) (q := 1) (v := sc) rfl rfl (by decide) (by decide) rfl rfl ho115.1 ho115.2 ((show Fx (me) (1 : Int) = F (me) (1 : Int) from hMx _ _ o_me (fun w => by have q1 := ho115.2; rw [w, ho116.2] at q1; exact absurd q1 (by decide)) (by rw [t_me]; rfl)).trans e_sc) ?_
      refine cx_gi (pc_q := 79) (c := 10) (q := 15) (v := Fx (sc) (15 : Int)) rfl rfl (by decide) (by decide) (Or.inl rfl) rfl ho117.1 ho117.2 rfl ?_
      have b784 : (-2147483648 : Int) ≤ Fx (sc) (15 : Int) ∧ Fx (sc) (15 : Int) ≤ 2147483647 := by have z := HC_i (c := 10) (q := 15) hCx ho117.1 ho117.2 (by decide) rfl; rw [show Fx (sc) ((15 : Nat) : Int) = Fx (sc) (15 : Int) from rfl] at z; exact z
      refine jx_ar (pc_q := 81) (st_q := [.int (i32 (55)), .int (i32 (Fx (sc) (15 : Int)))]) rfl rfl rfl rfl ?_
      refine jx_icmp_eq (pc_q := 84) (tg := 100) rfl rfl rfl (by omega) (by omega) (by decide) (by decide) (fun h785 => ?_) (fun h785 => ?_)
      · have _q := h785
        have t786 : tz (Fx (sc) (15 : Int)) = 1 := tz_p (by omega)
        refine jx_ld (pc_q := 101) (l_q := L778) (st_q := [rv (me)]) rfl (jl_rvn g779) ?_
        refine jx_ar (pc_q := 102) (st_q := [.int (i32 (4)), rv (me)]) rfl rfl rfl rfl ?_
        refine jx_ld (pc_q := 103) (l_q := L778) (st_q := [rv (me), .int (i32 (4)), rv (me)]) rfl (jl_rvn g779) ?_
        refine cx_gr (pc_q := 106) (c := 8) (q := 1) (v := sc) rfl rfl (by decide) (by decide) rfl rfl ho115.1 ho115.2 ((show Fx (me) (1 : Int) = F (me) (1 : Int) from hMx _ _ o_me (fun w => by have q1 := ho115.2; rw [w, ho116.2] at q1; exact absurd q1 (by decide)) (by rw [t_me]; rfl)).trans e_sc) ?_
        refine cx_gi (pc_q := 109) (c := 10) (q := 16) (v := Fx (sc) (16 : Int)) rfl rfl (by decide) (by decide) (Or.inl rfl) rfl ho117.1 ho117.2 rfl ?_
        have b787 : (-2147483648 : Int) ≤ Fx (sc) (16 : Int) ∧ Fx (sc) (16 : Int) ≤ 2147483647 := by have z := HC_i (c := 10) (q := 16) hCx ho117.1 ho117.2 (by decide) rfl; rw [show Fx (sc) ((16 : Nat) : Int) = Fx (sc) (16 : Int) from rfl] at z; exact z
        have q788 : Fx (sc) (7 : Int) = F (sc) (7 : Int) := (show Fx (sc) (7 : Int) = F (sc) (7 : Int) from hMx _ _ o_sc (fun w => by have q1 := ho117.2; rw [w, ho116.2] at q1; exact absurd q1 (by decide)) (by rw [t_sc]; rfl))
        refine cx_vi (c := 8) (a := me) (st := []) (as := [.int (i32 (4)), .int (i32 (Fx (sc) (16 : Int)))]) rfl rfl rfl ho115.1 ho115.2 (by decide) rfl ⟨rfl, rfl, (Nat.le_of_ble_eq_true rfl)⟩ rfl (k_LParser_fail (dd := d) (R := R) (m := mx) (tg := tgx) (ln := lnx) (F := Fx) (me := me) (kd := 4) (pl := Fx (sc) (16 : Int)) (hd := by omega) (hC := hCx) (o_me := ho115.1) (t_me := ho115.2) (h_kd := by omega) (h_pl := by omega) (sc := sc) (pg := pg) (o_sc := ho117.1) (t_sc := ho117.2) (e_sc := ((show Fx (me) (1 : Int) = F (me) (1 : Int) from hMx _ _ o_me (fun w => by have q1 := ho115.2; rw [w, ho116.2] at q1; exact absurd q1 (by decide)) (by rw [t_me]; rfl)).trans e_sc)) (o_pg := ho118.1) (t_pg := ho118.2) (e_pg := ((show Fx (me) (0 : Int) = F (me) (0 : Int) from hMx _ _ o_me (fun w => by have q1 := ho115.2; rw [w, ho116.2] at q1; exact absurd q1 (by decide)) (by rw [t_me]; rfl)).trans e_pg)) (p_0 := by omega) (p_1 := by omega) (c_NP := cx_NP)) (fun o V_q hq => ?_)
        obtain ⟨m789, tg789, ln789, F790, rfl, rfl, hx791, hC792, hM793, p794, c795, c796, -⟩ | ⟨m797, tg797, ln797, F797, x797, rfl, rfl, hx797, hC797, hM797, ho797, ht797, p798, p799, p800, p801, c802, c803, -⟩ := hq
        rotate_left
        ·
          have c804 : NM m m797 tg797 := NM_t cx_NM hx797 c803
          have lm805 := hx797.1
          refine Or.inr (Or.inr (Or.inr ⟨_, _, rfl, cx_exc (c := 15) ho797 ht797 (by decide), rfl, ?_⟩))
          have q806 : Fx (sc) (7 : Int) = F (sc) (7 : Int) := (show Fx (sc) (7 : Int) = F (sc) (7 : Int) from hMx _ _ o_sc (fun w => by have q1 := ho117.2; rw [w, ho116.2] at q1; exact absurd q1 (by decide)) (by rw [t_sc]; rfl))
          exact Or.inr ⟨m797, tg797, ln797, F797, x797, rfl, rfl, Ex_t hXx hx797, hC797, Fq_t (ln := ln) (ln1 := lnx) hMx hXx hM797 (by decide) (Or.inr (Or.inl rfl)), (And.intro ho797 ht797).1, (And.intro ho797 ht797).2, by omega, by omega, by omega, by omega, c802, c804, trivial⟩
        exact p794.elim
      · have _q := h785
        refine jx_ld (pc_q := 86) (l_q := L778) (st_q := [.int (i32 (0))]) rfl (jl_iload g783) ?_
        refine jx_if_eq (pc_q := 89) (tg := 112) rfl rfl rfl (by decide) (by decide) (fun h807 => ?_) (fun h807 => ?_)
        · have _q := h807
          refine jx_ld (pc_q := 113) (l_q := L778) (st_q := [rv (pa)]) rfl (jl_rvn g782) ?_
          refine cx_gi (pc_q := 116) (c := 6) (q := 0) (v := F (pa) (0 : Int)) rfl rfl (by decide) (by decide) (Or.inl rfl) rfl ho122.1 ho122.2 (show Fx (pa) (0 : Int) = F (pa) (0 : Int) from hMx _ _ pq.1 (fun w => by have q1 := ho122.2; rw [w, ho116.2] at q1; exact absurd q1 (by decide)) (by rw [pq.2]; rfl)) ?_
          refine jx_ar (pc_q := 118) (st_q := [.int (i32 (6)), .int (i32 (F (pa) (0 : Int)))]) rfl rfl rfl rfl ?_
          refine jx_icmp_ne (pc_q := 121) (tg := 134) rfl rfl rfl (by omega) (by omega) (by decide) (by decide) (fun h808 => ?_) (fun h808 => ?_)
          · have _q := h808
            refine jx_ld (pc_q := 135) (l_q := L778) (st_q := [rv (pa)]) rfl (jl_rvn g782) ?_
            refine cx_gi (pc_q := 138) (c := 6) (q := 0) (v := F (pa) (0 : Int)) rfl rfl (by decide) (by decide) (Or.inl rfl) rfl ho122.1 ho122.2 (show Fx (pa) (0 : Int) = F (pa) (0 : Int) from hMx _ _ pq.1 (fun w => by have q1 := ho122.2; rw [w, ho116.2] at q1; exact absurd q1 (by decide)) (by rw [pq.2]; rfl)) ?_
            refine jx_ar (pc_q := 140) (st_q := [.int (i32 (8)), .int (i32 (F (pa) (0 : Int)))]) rfl rfl rfl rfl ?_
            refine jx_icmp_ne (pc_q := 143) (tg := 159) rfl rfl rfl (by omega) (by omega) (by decide) (by decide) (fun h809 => ?_) (fun h809 => ?_)
            · have _q := h809
              refine jx_ld (pc_q := 161) (l_q := L778) (st_q := [.int (i32 (0))]) rfl (jl_iload g783) ?_
              refine jx_if_eq (pc_q := 164) (tg := 178) rfl rfl rfl (by decide) (by decide) (fun h810 => ?_) (fun h810 => ?_)
              · have _q := h810
                refine jx_ld (pc_q := 179) (l_q := L778) (st_q := [rv (me)]) rfl (jl_rvn g779) ?_
                have b811 : (0 : Int) ≤ Fx (me) (3 : Int) ∧ Fx (me) (3 : Int) ≤ 8 := by have z := HC_i (c := 8) (q := 3) hCx ho115.1 ho115.2 (by decide) rfl; exact z
                have q812 := tz_b (Fx (sc) (15 : Int))
                have q813 : Fx (sc) (7 : Int) = F (sc) (7 : Int) := (show Fx (sc) (7 : Int) = F (sc) (7 : Int) from hMx _ _ o_sc (fun w => by have q1 := ho117.2; rw [w, ho116.2] at q1; exact absurd q1 (by decide)) (by rw [t_sc]; rfl))
                have q814 := lz_b (Fx (sc) (14 : Int))
                refine cx_vi (c := 8) (a := me) (st := []) (as := []) rfl rfl rfl ho115.1 ho115.2 (by decide) rfl ⟨rfl, rfl, (Nat.le_of_ble_eq_true rfl)⟩ rfl (PEx_all X 9 (dd := d) (R := R) (m := mx) (tg := tgx) (ln := lnx) (F := Fx) (me := me) (hd := by omega) (hC := hCx) (o_me := ho115.1) (t_me := ho115.2) (sc := sc) (pg := pg) (o_sc := ho117.1) (t_sc := ho117.2) (e_sc := ((show Fx (me) (1 : Int) = F (me) (1 : Int) from hMx _ _ o_me (fun w => by have q1 := ho115.2; rw [w, ho116.2] at q1; exact absurd q1 (by decide)) (by rw [t_me]; rfl)).trans e_sc)) (o_pg := ho118.1) (t_pg := ho118.2) (e_pg := ((show Fx (me) (0 : Int) = F (me) (0 : Int) from hMx _ _ o_me (fun w => by have q1 := ho115.2; rw [w, ho116.2] at q1; exact absurd q1 (by decide)) (by rw [t_me]; rfl)).trans e_pg)) (p_0 := by omega) (p_1 := by omega) (p_2 := by omega) (p_3 := by omega) (c_NP := cx_NP)) (fun o V_q hq => ?_)
                obtain ⟨m815, tg815, ln815, F816, r817, rfl, rfl, hx818, hC819, hM820, b821, p822, p823, p824, p825, p826, p827, p828, p829, p830, p831, p832, c833, c834, -⟩ | ⟨m835, tg835, ln835, F835, x835, rfl, rfl, hx835, hC835, hM835, ho835, ht835, p836, p837, p838, p839, c840, c841, -⟩ := hq
                rotate_left
                ·
                  have c842 : NM m m835 tg835 := NM_t cx_NM hx835 c841
                  have lm843 := hx835.1
                  refine Or.inr (Or.inr (Or.inr ⟨_, _, rfl, cx_exc (c := 15) ho835 ht835 (by decide), rfl, ?_⟩))
                  have q844 : Fx (sc) (7 : Int) = F (sc) (7 : Int) := (show Fx (sc) (7 : Int) = F (sc) (7 : Int) from hMx _ _ o_sc (fun w => by have q1 := ho117.2; rw [w, ho116.2] at q1; exact absurd q1 (by decide)) (by rw [t_sc]; rfl))
                  exact Or.inr ⟨m835, tg835, ln835, F835, x835, rfl, rfl, Ex_t hXx hx835, hC835, Fq_t (ln := ln) (ln1 := lnx) hMx hXx hM835 (by decide) (Or.inr (Or.inl rfl)), (And.intro ho835 ht835).1, (And.intro ho835 ht835).2, by omega, by omega, by omega, by omega, c840, c842, trivial⟩
                have hM845 : Fq cl [(9, 3), (10, 0), (10, 1), (10, 2), (10, 9), (11, 8), (11, 12), (11, 13), (11, 14), (11, 15), (11, 16), (11, 17), (11, 18)] m tg F F816 := Fq_t (ln := ln) (ln1 := lnx) hMx hXx hM820 (by decide) (Or.inr (Or.inl rfl))
                have lm846 := hx818.1
                have lt847 : cl < 64 + (mx : Int) := ho116.1.2.1
                have lt848 : la < 64 + (mx : Int) := ho775.1.2.1
                have lt849 : pa < 64 + (mx : Int) := ho122.1.2.1
                have lt850 : nm < 64 + (mx : Int) := ho119.1.2.1
                have ho851 : own m815 (me) ∧ tg815 (me) = 9 := Ex_o hx818 ⟨ho115.1, ho115.2⟩
                have ho852 : own m815 (cl) ∧ tg815 (cl) = 8 := Ex_o hx818 ⟨ho116.1, ho116.2⟩
                have ho853 : own m815 (la) ∧ tg815 (la) = 8 := Ex_o hx818 ⟨ho775.1, ho775.2⟩
                have ho854 : own m815 (pa) ∧ tg815 (pa) = 7 := Ex_o hx818 ⟨ho122.1, ho122.2⟩
                have ho855 : own m815 (sc) ∧ tg815 (sc) = 11 := Ex_o hx818 ⟨ho117.1, ho117.2⟩
                have ho856 : own m815 (pg) ∧ tg815 (pg) = 10 := Ex_o hx818 ⟨ho118.1, ho118.2⟩
                have ho857 : own m815 (nm) ∧ tg815 (nm) = 7 := Ex_o hx818 ⟨ho119.1, ho119.2⟩
                have hX858 := Ex_t hXx hx818
                have w859 : WK F816 cl (21) := WK_q wx_cl hCx ho116.1 ho116.2 hM820 rfl
                have q860 := p830.1
                have q861 := p830.2.1
                have q862 := p830.2.2.1
                have c863 : NM m m815 tg815 := NM_t cx_NM hx818 c834
                refine Or.inr (Or.inl ⟨_, rfl, ?_⟩)
                refine jx_ld (pc_q := 184) (l_q := jSto1 L778 5 (rv (r817))) (st_q := []) rfl (js_rv (by decide)) ?_
                obtain ⟨L864, eL864⟩ : ∃ q : jL, q = jSto1 L778 5 (rv (r817)) := ⟨_, rfl⟩
                rw [← eL864]
                have g865 : jGet L864 0 = some (rv (me)) := eL864 ▸ jg_nr (by decide) g779
                have g866 : jGet L864 1 = some (rv (cl)) := eL864 ▸ jg_nr (by decide) g780
                have g867 : jGet L864 2 = some (rv (la)) := eL864 ▸ jg_nr (by decide) g781
                have g868 : jGet L864 3 = some (rv (pa)) := eL864 ▸ jg_nr (by decide) g782
                have g869 : jGet L864 4 = some (.int (i32 (0))) := eL864 ▸ jg_ne (by decide) g783 rfl
                have g870 : jGet L864 5 = some (rv (r817)) := eL864 ▸ jg_eq
                clear eL864
                have q871 := tz_b (F816 (sc) (15 : Int))
                have q872 := lz_b (F816 (sc) (14 : Int))
                have q873 : F816 (cl) (0 : Int) = Fx (cl) (0 : Int) := (show F816 (cl) (0 : Int) = Fx (cl) (0 : Int) from hM820 _ _ ho116.1 (own_z ho116.1) (by rw [ho116.2]; rfl))
                have q874 : F816 (cl) (3 : Int) = nm := ((show F816 (cl) (3 : Int) = Fx (cl) (3 : Int) from hM820 _ _ ho116.1 (own_z ho116.1) (by rw [ho116.2]; rfl)).trans iv_9)
                have q875 : F816 (la) (103 : Int) = Fx (la) (103 : Int) := (show F816 (la) (103 : Int) = Fx (la) (103 : Int) from hM820 _ _ ho775.1 (own_z ho775.1) (by rw [ho775.2]; rfl))
                have q876 : F816 (la) (100 : Int) = Fx (la) (100 : Int) := (show F816 (la) (100 : Int) = Fx (la) (100 : Int) from hM820 _ _ ho775.1 (own_z ho775.1) (by rw [ho775.2]; rfl))
                have q877 : F816 (la) (101 : Int) = Fx (la) (101 : Int) := (show F816 (la) (101 : Int) = Fx (la) (101 : Int) from hM820 _ _ ho775.1 (own_z ho775.1) (by rw [ho775.2]; rfl))
                exact k_LParser_readArguments_at_184 (X := X) (d := d) (R := R) (m := m) (tg := tg) (ln := ln) (F := F) (me := me) (cl := cl) (hd := hd) (hC := hC) (sc := sc) (pg := pg) (o_sc := o_sc) (t_sc := t_sc) (e_sc := e_sc) (o_pg := o_pg) (t_pg := t_pg) (e_pg := e_pg) (o_me := o_me) (t_me := t_me) (o_cl := o_cl) (t_cl := t_cl) (nm := nm) (o_nm := o_nm) (t_nm := t_nm) (p_0 := p_0) (p_1 := p_1) (p_2 := p_2) (p_3 := p_3) (p_4 := p_4) (p_5 := p_5) (p_6 := p_6) (p_7 := p_7) (p_8 := p_8) (p_9 := p_9) (p_10 := p_10) (p_11 := p_11) (c_NP := c_NP) (mm0 := mm0) (ih := ih) L864 m815 tg815 ln815 F816 (la) (pa) (r817) (by omega) g865 g866 g867 g868 g870 hX858 hC819 hM845 (Or.inr ⟨ho853.1, ho853.2⟩) (Or.inr ⟨ho854.1, ho854.2⟩) (Or.inr ⟨b821.1, b821.2⟩) (by omega) (by omega) (by omega) (by omega) (by omega) (by omega) (by omega) (by omega) (by omega) (by omega) (by omega) (by omega) (Or.inr ⟨pq.1, pq.2⟩) (iv_13.imp_right (fun w => by rw [show F816 (la) (101 : Int) = Fx (la) (101 : Int) from (show F816 (la) (101 : Int) = Fx (la) (101 : Int) from hM820 _ _ ho775.1 (own_z ho775.1) (by rw [ho775.2]; rfl))]; exact w)) (by omega) (by omega) (by omega) (by omega) c833 c863 (WK_m w859 (by omega)) (WK_m p830 (by omega))
              · have _q := h810
                exact absurd h810 (by omega)
            · have _q := h809
              refine jx_ld (pc_q := 144) (l_q := L778) (st_q := [rv (me)]) rfl (jl_rvn g779) ?_
              refine jx_ld (pc_q := 145) (l_q := L778) (st_q := [rv (me), rv (me)]) rfl (jl_rvn g779) ?_
              have q878 := tz_b (Fx (sc) (15 : Int))
              have q879 : Fx (sc) (7 : Int) = F (sc) (7 : Int) := (show Fx (sc) (7 : Int) = F (sc) (7 : Int) from hMx _ _ o_sc (fun w => by have q1 := ho117.2; rw [w, ho116.2] at q1; exact absurd q1 (by decide)) (by rw [t_sc]; rfl))
              have q880 := lz_b (Fx (sc) (14 : Int))
              refine cx_vi (c := 8) (a := me) (st := [rv (me)]) (as := []) rfl rfl rfl ho115.1 ho115.2 (by decide) rfl ⟨rfl, rfl, (by rw [jS_r, jS_0]; exact Nat.le_of_ble_eq_true rfl)⟩ rfl (k_LParser_known (dd := d) (R := R) (m := mx) (tg := tgx) (ln := lnx) (F := Fx) (me := me) (hd := by omega) (hC := hCx) (o_me := ho115.1) (t_me := ho115.2) (sc := sc) (pg := pg) (o_sc := ho117.1) (t_sc := ho117.2) (e_sc := ((show Fx (me) (1 : Int) = F (me) (1 : Int) from hMx _ _ o_me (fun w => by have q1 := ho115.2; rw [w, ho116.2] at q1; exact absurd q1 (by decide)) (by rw [t_me]; rfl)).trans e_sc)) (o_pg := ho118.1) (t_pg := ho118.2) (e_pg := ((show Fx (me) (0 : Int) = F (me) (0 : Int) from hMx _ _ o_me (fun w => by have q1 := ho115.2; rw [w, ho116.2] at q1; exact absurd q1 (by decide)) (by rw [t_me]; rfl)).trans e_pg)) (p_0 := by omega) (p_1 := by omega) (p_2 := by omega) (c_NP := cx_NP)) (fun o V_q hq => ?_)
              obtain ⟨m881, tg881, ln881, F882, r883, rfl, rfl, hx884, hC885, hM886, b887, p888, p889, p890, p891, p892, p893, p894, c895, c896, -⟩ | ⟨m897, tg897, ln897, F897, x897, rfl, rfl, hx897, hC897, hM897, ho897, ht897, p898, p899, p900, p901, c902, c903, -⟩ := hq
              rotate_left
              ·
                have c904 : NM m m897 tg897 := NM_t cx_NM hx897 c903
                have lm905 := hx897.1
                refine Or.inr (Or.inr (Or.inr ⟨_, _, rfl, cx_exc (c := 15) ho897 ht897 (by decide), rfl, ?_⟩))
                have q906 : Fx (sc) (7 : Int) = F (sc) (7 : Int) := (show Fx (sc) (7 : Int) = F (sc) (7 : Int) from hMx _ _ o_sc (fun w => by have q1 := ho117.2; rw [w, ho116.2] at q1; exact absurd q1 (by decide)) (by rw [t_sc]; rfl))
                exact Or.inr ⟨m897, tg897, ln897, F897, x897, rfl, rfl, Ex_t hXx hx897, hC897, Fq_t (ln := ln) (ln1 := lnx) hMx hXx hM897 (by decide) (Or.inr (Or.inl rfl)), (And.intro ho897 ht897).1, (And.intro ho897 ht897).2, by omega, by omega, by omega, by omega, c902, c904, trivial⟩
              have hM907 : Fq cl [(9, 3), (10, 0), (10, 1), (10, 2), (10, 9), (11, 8), (11, 12), (11, 13), (11, 14), (11, 15), (11, 16), (11, 17), (11, 18)] m tg F F882 := Fq_t (ln := ln) (ln1 := lnx) hMx hXx hM886 (by decide) (Or.inr (Or.inl rfl))
              have lm908 := hx884.1
              have lt909 : cl < 64 + (mx : Int) := ho116.1.2.1
              have lt910 : la < 64 + (mx : Int) := ho775.1.2.1
              have lt911 : pa < 64 + (mx : Int) := ho122.1.2.1
              have lt912 : nm < 64 + (mx : Int) := ho119.1.2.1
              have ho913 : own m881 (me) ∧ tg881 (me) = 9 := Ex_o hx884 ⟨ho115.1, ho115.2⟩
              have ho914 : own m881 (cl) ∧ tg881 (cl) = 8 := Ex_o hx884 ⟨ho116.1, ho116.2⟩
              have ho915 : own m881 (la) ∧ tg881 (la) = 8 := Ex_o hx884 ⟨ho775.1, ho775.2⟩
              have ho916 : own m881 (pa) ∧ tg881 (pa) = 7 := Ex_o hx884 ⟨ho122.1, ho122.2⟩
              have ho917 : own m881 (sc) ∧ tg881 (sc) = 11 := Ex_o hx884 ⟨ho117.1, ho117.2⟩
              have ho918 : own m881 (pg) ∧ tg881 (pg) = 10 := Ex_o hx884 ⟨ho118.1, ho118.2⟩
              have ho919 : own m881 (nm) ∧ tg881 (nm) = 7 := Ex_o hx884 ⟨ho119.1, ho119.2⟩
              have hX920 := Ex_t hXx hx884
              have w921 : WK F882 cl (21) := WK_q wx_cl hCx ho116.1 ho116.2 hM886 rfl
              have c922 : NM m m881 tg881 := NM_t cx_NM hx884 c896
              refine Or.inr (Or.inl ⟨_, rfl, ?_⟩)
              refine cx_vi (c := 6) (a := r883) (st := [rv (me)]) (as := []) rfl rfl rfl b887.1 b887.2 (by decide) rfl ⟨rfl, rfl, (by rw [jS_r, jS_0]; exact Nat.le_of_ble_eq_true rfl)⟩ rfl (k_LName_isChannel (dd := d) (R := R) (m := m881) (tg := tg881) (ln := ln881) (F := F882) (me := r883) (hd := by omega) (hC := hC885) (o_me := b887.1) (t_me := b887.2)) (fun o V_q hq => ?_)
              obtain ⟨r923, rfl, rfl, b924, -⟩ := hq
              refine Or.inr (Or.inl ⟨_, rfl, ?_⟩)
              have b925 : (0 : Int) ≤ Fx (me) (3 : Int) ∧ Fx (me) (3 : Int) ≤ 8 := by have z := HC_i (c := 8) (q := 3) hC885 ho913.1 ho913.2 (by decide) rfl; rw [show F882 (me) ((3 : Nat) : Int) = Fx (me) (3 : Int) from (show F882 (me) (3 : Int) = Fx (me) (3 : Int) from hM886 _ _ ho115.1 (own_z ho115.1) (by rw [ho115.2]; rfl))] at z; exact z
              have q926 : F882 (sc) (8 : Int) = Fx (sc) (8 : Int) := (show F882 (sc) (8 : Int) = Fx (sc) (8 : Int) from hM886 _ _ ho117.1 (own_z ho117.1) (by rw [ho117.2]; rfl))
              have q927 : F882 (sc) (15 : Int) = Fx (sc) (15 : Int) := (show F882 (sc) (15 : Int) = Fx (sc) (15 : Int) from hM886 _ _ ho117.1 (own_z ho117.1) (by rw [ho117.2]; rfl))
              have q928 : tz (F882 (sc) (15 : Int)) = tz (Fx (sc) (15 : Int)) := by rw [q927]
              have q929 := tz_b (Fx (sc) (15 : Int))
              have q930 : F882 (sc) (7 : Int) = F (sc) (7 : Int) := ((show F882 (sc) (7 : Int) = Fx (sc) (7 : Int) from hM886 _ _ ho117.1 (own_z ho117.1) (by rw [ho117.2]; rfl)).trans (show Fx (sc) (7 : Int) = F (sc) (7 : Int) from hMx _ _ o_sc (fun w => by have q1 := ho917.2; rw [w, ho914.2] at q1; exact absurd q1 (by decide)) (by rw [t_sc]; rfl)))
              have q931 : F882 (sc) (14 : Int) = Fx (sc) (14 : Int) := (show F882 (sc) (14 : Int) = Fx (sc) (14 : Int) from hM886 _ _ ho117.1 (own_z ho117.1) (by rw [ho117.2]; rfl))
              have q932 : lz (F882 (sc) (14 : Int)) = lz (Fx (sc) (14 : Int)) := by rw [q931]
              have q933 := lz_b (Fx (sc) (14 : Int))
              have q934 : F882 (me) (3 : Int) = Fx (me) (3 : Int) := (show F882 (me) (3 : Int) = Fx (me) (3 : Int) from hM886 _ _ ho115.1 (own_z ho115.1) (by rw [ho115.2]; rfl))
              have q935 : F882 (pg) (9 : Int) = Fx (pg) (9 : Int) := (show F882 (pg) (9 : Int) = Fx (pg) (9 : Int) from hM886 _ _ ho118.1 (own_z ho118.1) (by rw [ho118.2]; rfl))
              refine cx_vi (c := 8) (a := me) (st := []) (as := [.int (i32 (r923))]) rfl rfl rfl ho913.1 ho913.2 (by decide) rfl ⟨rfl, rfl, (Nat.le_of_ble_eq_true rfl)⟩ rfl (k_LParser_judged (dd := d) (R := R) (m := m881) (tg := tg881) (ln := ln881) (F := F882) (kk := 9) (hE := fun _ => PEx_all X _) (me := me) (wa := r923) (hd := by omega) (hC := hC885) (o_me := ho913.1) (t_me := ho913.2) (h_wa := by omega) (sc := sc) (pg := pg) (o_sc := ho917.1) (t_sc := ho917.2) (e_sc := (((show F882 (me) (1 : Int) = Fx (me) (1 : Int) from hM886 _ _ ho115.1 (own_z ho115.1) (by rw [ho115.2]; rfl)).trans (show Fx (me) (1 : Int) = F (me) (1 : Int) from hMx _ _ o_me (fun w => by have q1 := ho913.2; rw [w, ho914.2] at q1; exact absurd q1 (by decide)) (by rw [t_me]; rfl))).trans e_sc)) (o_pg := ho918.1) (t_pg := ho918.2) (e_pg := (((show F882 (me) (0 : Int) = Fx (me) (0 : Int) from hM886 _ _ ho115.1 (own_z ho115.1) (by rw [ho115.2]; rfl)).trans (show Fx (me) (0 : Int) = F (me) (0 : Int) from hMx _ _ o_me (fun w => by have q1 := ho913.2; rw [w, ho914.2] at q1; exact absurd q1 (by decide)) (by rw [t_me]; rfl))).trans e_pg)) (p_0 := by omega) (p_1 := by omega) (p_2 := by omega) (p_3 := by omega) (p_4 := by omega) (c_NP := c895)) (fun o V_q hq => ?_)
              obtain ⟨m936, tg936, ln936, F937, r938, rfl, rfl, hx939, hC940, hM941, b942, p943, p944, p945, p946, p947, p948, p949, p950, p951, p952, p953, p954, c955, c956, -⟩ | ⟨m957, tg957, ln957, F957, x957, rfl, rfl, hx957, hC957, hM957, ho957, ht957, p958, p959, p960, p961, c962, c963, -⟩ := hq
              rotate_left
              ·
                have c964 : NM m m957 tg957 := NM_t c922 hx957 c963
                have lm965 := hx957.1
                refine Or.inr (Or.inr (Or.inr ⟨_, _, rfl, cx_exc (c := 15) ho957 ht957 (by decide), rfl, ?_⟩))
                have q966 : F882 (sc) (8 : Int) = Fx (sc) (8 : Int) := q926
                have q967 : F882 (sc) (7 : Int) = F (sc) (7 : Int) := q930
                exact Or.inr ⟨m957, tg957, ln957, F957, x957, rfl, rfl, Ex_t hX920 hx957, hC957, Fq_t (ln := ln) (ln1 := ln881) hM907 hX920 hM957 (by decide) (Or.inr (Or.inl rfl)), (And.intro ho957 ht957).1, (And.intro ho957 ht957).2, by omega, by omega, by omega, by omega, c962, c964, trivial⟩
              have hM968 : Fq cl [(9, 3), (10, 0), (10, 1), (10, 2), (10, 9), (11, 8), (11, 12), (11, 13), (11, 14), (11, 15), (11, 16), (11, 17), (11, 18)] m tg F F937 := Fq_t (ln := ln) (ln1 := ln881) hM907 hX920 hM941 (by decide) (Or.inr (Or.inl rfl))
              have lm969 := hx939.1
              have lt970 : cl < 64 + (m881 : Int) := ho914.1.2.1
              have lt971 : la < 64 + (m881 : Int) := ho915.1.2.1
              have lt972 : pa < 64 + (m881 : Int) := ho916.1.2.1
              have lt973 : nm < 64 + (m881 : Int) := ho919.1.2.1
              have ho974 : own m936 (me) ∧ tg936 (me) = 9 := Ex_o hx939 ⟨ho913.1, ho913.2⟩
              have ho975 : own m936 (cl) ∧ tg936 (cl) = 8 := Ex_o hx939 ⟨ho914.1, ho914.2⟩
              have ho976 : own m936 (la) ∧ tg936 (la) = 8 := Ex_o hx939 ⟨ho915.1, ho915.2⟩
              have ho977 : own m936 (pa) ∧ tg936 (pa) = 7 := Ex_o hx939 ⟨ho916.1, ho916.2⟩
              have ho978 : own m936 (sc) ∧ tg936 (sc) = 11 := Ex_o hx939 ⟨ho917.1, ho917.2⟩
              have ho979 : own m936 (pg) ∧ tg936 (pg) = 10 := Ex_o hx939 ⟨ho918.1, ho918.2⟩
              have ho980 : own m936 (nm) ∧ tg936 (nm) = 7 := Ex_o hx939 ⟨ho919.1, ho919.2⟩
              have hX981 := Ex_t hX920 hx939
              have w982 : WK F937 cl (21) := WK_q w921 hC885 ho914.1 ho914.2 hM941 rfl
              have q983 := p951.1
              have q984 := p951.2.1
              have q985 := p951.2.2.1
              have c986 : NM m m936 tg936 := NM_t c922 hx939 c956
              refine Or.inr (Or.inl ⟨_, rfl, ?_⟩)
              refine jx_ld (pc_q := 156) (l_q := jSto1 L778 5 (rv (r938))) (st_q := []) rfl (js_rv (by decide)) ?_
              obtain ⟨L987, eL987⟩ : ∃ q : jL, q = jSto1 L778 5 (rv (r938)) := ⟨_, rfl⟩
              rw [← eL987]
              have g988 : jGet L987 0 = some (rv (me)) := eL987 ▸ jg_nr (by decide) g779
              have g989 : jGet L987 1 = some (rv (cl)) := eL987 ▸ jg_nr (by decide) g780
              have g990 : jGet L987 2 = some (rv (la)) := eL987 ▸ jg_nr (by decide) g781
              have g991 : jGet L987 3 = some (rv (pa)) := eL987 ▸ jg_nr (by decide) g782
              have g992 : jGet L987 4 = some (.int (i32 (0))) := eL987 ▸ jg_ne (by decide) g783 rfl
              have g993 : jGet L987 5 = some (rv (r938)) := eL987 ▸ jg_eq
              clear eL987
              refine jx_go (tg := 184) rfl rfl ?_
              have q994 := tz_b (F937 (sc) (15 : Int))
              have q995 := lz_b (F937 (sc) (14 : Int))
              have q996 : F937 (cl) (0 : Int) = Fx (cl) (0 : Int) := ((show F937 (cl) (0 : Int) = F882 (cl) (0 : Int) from hM941 _ _ ho914.1 (own_z ho914.1) (by rw [ho914.2]; rfl)).trans (show F882 (cl) (0 : Int) = Fx (cl) (0 : Int) from hM886 _ _ ho116.1 (own_z ho116.1) (by rw [ho116.2]; rfl)))
              have q997 : F937 (cl) (3 : Int) = nm := (((show F937 (cl) (3 : Int) = F882 (cl) (3 : Int) from hM941 _ _ ho914.1 (own_z ho914.1) (by rw [ho914.2]; rfl)).trans (show F882 (cl) (3 : Int) = Fx (cl) (3 : Int) from hM886 _ _ ho116.1 (own_z ho116.1) (by rw [ho116.2]; rfl))).trans iv_9)
              have q998 : F937 (la) (103 : Int) = Fx (la) (103 : Int) := ((show F937 (la) (103 : Int) = F882 (la) (103 : Int) from hM941 _ _ ho915.1 (own_z ho915.1) (by rw [ho915.2]; rfl)).trans (show F882 (la) (103 : Int) = Fx (la) (103 : Int) from hM886 _ _ ho775.1 (own_z ho775.1) (by rw [ho775.2]; rfl)))
              have q999 : F937 (la) (100 : Int) = Fx (la) (100 : Int) := ((show F937 (la) (100 : Int) = F882 (la) (100 : Int) from hM941 _ _ ho915.1 (own_z ho915.1) (by rw [ho915.2]; rfl)).trans (show F882 (la) (100 : Int) = Fx (la) (100 : Int) from hM886 _ _ ho775.1 (own_z ho775.1) (by rw [ho775.2]; rfl)))
              have q1000 : F937 (la) (101 : Int) = Fx (la) (101 : Int) := ((show F937 (la) (101 : Int) = F882 (la) (101 : Int) from hM941 _ _ ho915.1 (own_z ho915.1) (by rw [ho915.2]; rfl)).trans (show F882 (la) (101 : Int) = Fx (la) (101 : Int) from hM886 _ _ ho775.1 (own_z ho775.1) (by rw [ho775.2]; rfl)))
              exact k_LParser_readArguments_at_184 (X := X) (d := d) (R := R) (m := m) (tg := tg) (ln := ln) (F := F) (me := me) (cl := cl) (hd := hd) (hC := hC) (sc := sc) (pg := pg) (o_sc := o_sc) (t_sc := t_sc) (e_sc := e_sc) (o_pg := o_pg) (t_pg := t_pg) (e_pg := e_pg) (o_me := o_me) (t_me := t_me) (o_cl := o_cl) (t_cl := t_cl) (nm := nm) (o_nm := o_nm) (t_nm := t_nm) (p_0 := p_0) (p_1 := p_1) (p_2 := p_2) (p_3 := p_3) (p_4 := p_4) (p_5 := p_5) (p_6 := p_6) (p_7 := p_7) (p_8 := p_8) (p_9 := p_9) (p_10 := p_10) (p_11 := p_11) (c_NP := c_NP) (mm0 := mm0) (ih := ih) L987 m936 tg936 ln936 F937 (la) (pa) (r938) (by omega) g988 g989 g990 g991 g993 hX981 hC940 hM968 (Or.inr ⟨ho976.1, ho976.2⟩) (Or.inr ⟨ho977.1, ho977.2⟩) (Or.inr ⟨b942.1, b942.2⟩) (by omega) (by omega) (by omega) (by omega) (by omega) (by omega) (by omega) (by omega) (by omega) (by omega) (by omega) (by omega) (Or.inr ⟨pq.1, pq.2⟩) (iv_13.imp_right (fun w => by rw [show F937 (la) (101 : Int) = Fx (la) (101 : Int) from ((show F937 (la) (101 : Int) = F882 (la) (101 : Int) from hM941 _ _ ho915.1 (own_z ho915.1) (by rw [ho915.2]; rfl)).trans (show F882 (la) (101 : Int) = Fx (la) (101 : Int) from hM886 _ _ ho775.1 (own_z ho775.1) (by rw [ho775.2]; rfl)))]; exact w)) (by omega) (by omega) (by omega) (by omega) c955 c986 (WK_m w982 (by omega)) (WK_m p951 (by omega))
          · have _q := h808
            refine jx_ld (pc_q := 122) (l_q := L778) (st_q := [rv (me)]) rfl (jl_rvn g779) ?_
            refine jx_ld (pc_q := 123) (l_q := L778) (st_q := [rv (pa), rv (me)]) rfl (jl_rvn g782) ?_
            refine cx_gi (pc_q := 126) (c := 6) (q := 3) (v := F (pa) (3 : Int)) rfl rfl (by decide) (by decide) (Or.inl rfl) rfl ho122.1 ho122.2 (show Fx (pa) (3 : Int) = F (pa) (3 : Int) from hMx _ _ pq.1 (fun w => by have q1 := ho122.2; rw [w, ho116.2] at q1; exact absurd q1 (by decide)) (by rw [pq.2]; rfl)) ?_
            have b1001 : (-2147483648 : Int) ≤ F (pa) (3 : Int) ∧ F (pa) (3 : Int) ≤ 2147483647 := by have z := HC_i (c := 6) (q := 3) hCx ho122.1 ho122.2 (by decide) rfl; rw [show Fx (pa) ((3 : Nat) : Int) = F (pa) (3 : Int) from (show Fx (pa) (3 : Int) = F (pa) (3 : Int) from hMx _ _ pq.1 (fun w => by have q1 := ho122.2; rw [w, ho116.2] at q1; exact absurd q1 (by decide)) (by rw [pq.2]; rfl))] at z; exact z
            have b1002 : (0 : Int) ≤ Fx (me) (3 : Int) ∧ Fx (me) (3 : Int) ≤ 8 := by have z := HC_i (c := 8) (q := 3) hCx ho115.1 ho115.2 (by decide) rfl; exact z
            have q1003 := tz_b (Fx (sc) (15 : Int))
            have q1004 : Fx (sc) (7 : Int) = F (sc) (7 : Int) := (show Fx (sc) (7 : Int) = F (sc) (7 : Int) from hMx _ _ o_sc (fun w => by have q1 := ho117.2; rw [w, ho116.2] at q1; exact absurd q1 (by decide)) (by rw [t_sc]; rfl))
            have q1005 := lz_b (Fx (sc) (14 : Int))
            refine cx_vi (c := 8) (a := me) (st := []) (as := [.int (i32 (F (pa) (3 : Int)))]) rfl rfl rfl ho115.1 ho115.2 (by decide) rfl ⟨rfl, rfl, (Nat.le_of_ble_eq_true rfl)⟩ rfl (k_LParser_readArray (dd := d) (R := R) (m := mx) (tg := tgx) (ln := lnx) (F := Fx) (me := me) (sz := F (pa) (3 : Int)) (hd := by omega) (hC := hCx) (o_me := ho115.1) (t_me := ho115.2) (h_sz := by omega) (sc := sc) (pg := pg) (o_sc := ho117.1) (t_sc := ho117.2) (e_sc := ((show Fx (me) (1 : Int) = F (me) (1 : Int) from hMx _ _ o_me (fun w => by have q1 := ho115.2; rw [w, ho116.2] at q1; exact absurd q1 (by decide)) (by rw [t_me]; rfl)).trans e_sc)) (o_pg := ho118.1) (t_pg := ho118.2) (e_pg := ((show Fx (me) (0 : Int) = F (me) (0 : Int) from hMx _ _ o_me (fun w => by have q1 := ho115.2; rw [w, ho116.2] at q1; exact absurd q1 (by decide)) (by rw [t_me]; rfl)).trans e_pg)) (p_0 := by omega) (p_1 := by omega) (p_2 := by omega) (p_3 := by omega) (c_NP := cx_NP)) (fun o V_q hq => ?_)
            obtain ⟨m1006, tg1006, ln1006, F1007, r1008, rfl, rfl, hx1009, hC1010, hM1011, b1012, p1013, p1014, p1015, p1016, p1017, p1018, p1019, p1020, p1021, p1022, p1023, p1024, c1025, c1026, -⟩ | ⟨m1027, tg1027, ln1027, F1027, x1027, rfl, rfl, hx1027, hC1027, hM1027, ho1027, ht1027, p1028, p1029, p1030, p1031, c1032, c1033, -⟩ := hq
            rotate_left
            ·
              have c1034 : NM m m1027 tg1027 := NM_t cx_NM hx1027 c1033
              have lm1035 := hx1027.1
              refine Or.inr (Or.inr (Or.inr ⟨_, _, rfl, cx_exc (c := 15) ho1027 ht1027 (by decide), rfl, ?_⟩))
              have q1036 : Fx (sc) (7 : Int) = F (sc) (7 : Int) := (show Fx (sc) (7 : Int) = F (sc) (7 : Int) from hMx _ _ o_sc (fun w => by have q1 := ho117.2; rw [w, ho116.2] at q1; exact absurd q1 (by decide)) (by rw [t_sc]; rfl))
              exact Or.inr ⟨m1027, tg1027, ln1027, F1027, x1027, rfl, rfl, Ex_t hXx hx1027, hC1027, Fq_t (ln := ln) (ln1 := lnx) hMx hXx hM1027 (by decide) (Or.inr (Or.inl rfl)), (And.intro ho1027 ht1027).1, (And.intro ho1027 ht1027).2, by omega, by omega, by omega, by omega, c1032, c1034, trivial⟩
            have hM1037 : Fq cl [(9, 3), (10, 0), (10, 1), (10, 2), (10, 9), (11, 8), (11, 12), (11, 13), (11, 14), (11, 15), (11, 16), (11, 17), (11, 18)] m tg F F1007 := Fq_t (ln := ln) (ln1 := lnx) hMx hXx hM1011 (by decide) (Or.inr (Or.inl rfl))
            have lm1038 := hx1009.1
            have lt1039 : cl < 64 + (mx : Int) := ho116.1.2.1
            have lt1040 : la < 64 + (mx : Int) := ho775.1.2.1
            have lt1041 : pa < 64 + (mx : Int) := ho122.1.2.1
            have lt1042 : nm < 64 + (mx : Int) := ho119.1.2.1
            have ho1043 : own m1006 (me) ∧ tg1006 (me) = 9 := Ex_o hx1009 ⟨ho115.1, ho115.2⟩
            have ho1044 : own m1006 (cl) ∧ tg1006 (cl) = 8 := Ex_o hx1009 ⟨ho116.1, ho116.2⟩
            have ho1045 : own m1006 (la) ∧ tg1006 (la) = 8 := Ex_o hx1009 ⟨ho775.1, ho775.2⟩
            have ho1046 : own m1006 (pa) ∧ tg1006 (pa) = 7 := Ex_o hx1009 ⟨ho122.1, ho122.2⟩
            have ho1047 : own m1006 (sc) ∧ tg1006 (sc) = 11 := Ex_o hx1009 ⟨ho117.1, ho117.2⟩
            have ho1048 : own m1006 (pg) ∧ tg1006 (pg) = 10 := Ex_o hx1009 ⟨ho118.1, ho118.2⟩
            have ho1049 : own m1006 (nm) ∧ tg1006 (nm) = 7 := Ex_o hx1009 ⟨ho119.1, ho119.2⟩
            have hX1050 := Ex_t hXx hx1009
            have w1051 : WK F1007 cl (21) := WK_q wx_cl hCx ho116.1 ho116.2 hM1011 rfl
            have q1052 := p1021.1
            have q1053 := p1021.2.1
            have q1054 := p1021.2.2.1
            have c1055 : NM m m1006 tg1006 := NM_t cx_NM hx1009 c1026
            refine Or.inr (Or.inl ⟨_, rfl, ?_⟩)
            refine jx_ld (pc_q := 131) (l_q := jSto1 L778 5 (rv (r1008))) (st_q := []) rfl (js_rv (by decide)) ?_
            obtain ⟨L1056, eL1056⟩ : ∃ q : jL, q = jSto1 L778 5 (rv (r1008)) := ⟨_, rfl⟩
            rw [← eL1056]
            have g1057 : jGet L1056 0 = some (rv (me)) := eL1056 ▸ jg_nr (by decide) g779
            have g1058 : jGet L1056 1 = some (rv (cl)) := eL1056 ▸ jg_nr (by decide) g780
            have g1059 : jGet L1056 2 = some (rv (la)) := eL1056 ▸ jg_nr (by decide) g781
            have g1060 : jGet L1056 3 = some (rv (pa)) := eL1056 ▸ jg_nr (by decide) g782
            have g1061 : jGet L1056 4 = some (.int (i32 (0))) := eL1056 ▸ jg_ne (by decide) g783 rfl
            have g1062 : jGet L1056 5 = some (rv (r1008)) := eL1056 ▸ jg_eq
            clear eL1056
            refine jx_go (tg := 184) rfl rfl ?_
            have q1063 := tz_b (F1007 (sc) (15 : Int))
            have q1064 := lz_b (F1007 (sc) (14 : Int))
            have q1065 : F1007 (me) (3 : Int) = Fx (me) (3 : Int) := (show F1007 (me) (3 : Int) = Fx (me) (3 : Int) from hM1011 _ _ ho115.1 (own_z ho115.1) (by rw [ho115.2]; rfl))
            have q1066 : F1007 (cl) (0 : Int) = Fx (cl) (0 : Int) := (show F1007 (cl) (0 : Int) = Fx (cl) (0 : Int) from hM1011 _ _ ho116.1 (own_z ho116.1) (by rw [ho116.2]; rfl))
            have q1067 : F1007 (cl) (3 : Int) = nm := ((show F1007 (cl) (3 : Int) = Fx (cl) (3 : Int) from hM1011 _ _ ho116.1 (own_z ho116.1) (by rw [ho116.2]; rfl)).trans iv_9)
            have q1068 : F1007 (la) (103 : Int) = Fx (la) (103 : Int) := (show F1007 (la) (103 : Int) = Fx (la) (103 : Int) from hM1011 _ _ ho775.1 (own_z ho775.1) (by rw [ho775.2]; rfl))
            have q1069 : F1007 (la) (100 : Int) = Fx (la) (100 : Int) := (show F1007 (la) (100 : Int) = Fx (la) (100 : Int) from hM1011 _ _ ho775.1 (own_z ho775.1) (by rw [ho775.2]; rfl))
            have q1070 : F1007 (la) (101 : Int) = Fx (la) (101 : Int) := (show F1007 (la) (101 : Int) = Fx (la) (101 : Int) from hM1011 _ _ ho775.1 (own_z ho775.1) (by rw [ho775.2]; rfl))
            exact k_LParser_readArguments_at_184 (X := X) (d := d) (R := R) (m := m) (tg := tg) (ln := ln) (F := F) (me := me) (cl := cl) (hd := hd) (hC := hC) (sc := sc) (pg := pg) (o_sc := o_sc) (t_sc := t_sc) (e_sc := e_sc) (o_pg := o_pg) (t_pg := t_pg) (e_pg := e_pg) (o_me := o_me) (t_me := t_me) (o_cl := o_cl) (t_cl := t_cl) (nm := nm) (o_nm := o_nm) (t_nm := t_nm) (p_0 := p_0) (p_1 := p_1) (p_2 := p_2) (p_3 := p_3) (p_4 := p_4) (p_5 := p_5) (p_6 := p_6) (p_7 := p_7) (p_8 := p_8) (p_9 := p_9) (p_10 := p_10) (p_11 := p_11) (c_NP := c_NP) (mm0 := mm0) (ih := ih) L1056 m1006 tg1006 ln1006 F1007 (la) (pa) (r1008) (by omega) g1057 g1058 g1059 g1060 g1062 hX1050 hC1010 hM1037 (Or.inr ⟨ho1045.1, ho1045.2⟩) (Or.inr ⟨ho1046.1, ho1046.2⟩) (Or.inr ⟨b1012.1, b1012.2⟩) (by omega) (by omega) (by omega) (by omega) (by omega) (by omega) (by omega) (by omega) (by omega) (by omega) (by omega) (by omega) (Or.inr ⟨pq.1, pq.2⟩) (iv_13.imp_right (fun w => by rw [show F1007 (la) (101 : Int) = Fx (la) (101 : Int) from (show F1007 (la) (101 : Int) = Fx (la) (101 : Int) from hM1011 _ _ ho775.1 (own_z ho775.1) (by rw [ho775.2]; rfl))]; exact w)) (by omega) (by omega) (by omega) (by omega) c1025 c1055 (WK_m w1051 (by omega)) (WK_m p1021 (by omega))
        · have _q := h807
          exact absurd h807 (by omega)
    · have _q := h777
      refine jx_ar (pc_q := 66) (st_q := [.int (i32 (1))]) rfl rfl rfl rfl ?_
      refine jx_go (tg := 70) rfl rfl ?_
      refine jx_ld (pc_q := 72) (l_q := jSto1 L 4 (.int (i32 (1)))) (st_q := []) rfl rfl ?_
      obtain ⟨L1071, eL1071⟩ : ∃ q : jL, q = jSto1 L 4 (.int (i32 (1))) := ⟨_, rfl⟩
      rw [← eL1071]
      have g1072 : jGet L1071 0 = some (rv (me)) := eL1071 ▸ jg_nr (by decide) gL_0
      have g1073 : jGet L1071 1 = some (rv (cl)) := eL1071 ▸ jg_nr (by decide) gL_1
      have g1074 : jGet L1071 2 = some (rv (la)) := eL1071 ▸ jg_nr (by decide) gL_2
      have g1075 : jGet L1071 3 = some (rv (pa)) := eL1071 ▸ jg_nr (by decide) gL_3
      have g1076 : jGet L1071 4 = some (.int (i32 (1))) := eL1071 ▸ jg_eq
      clear eL1071
      refine jx_ld (pc_q := 73) (l_q := L1071) (st_q := [rv (me)]) rfl (jl_rvn g1072) ?_
      refine cx_gr (pc_q := 76) (c := 8) (q := 1) (v := sc) rfl rfl (by decide) (by decide) rfl rfl ho115.1 ho115.2 ((show Fx (me) (1 : Int) = F (me) (1 : Int) from hMx _ _ o_me (fun w => by have q1 := ho115.2; rw [w, ho116.2] at q1; exact absurd q1 (by decide)) (by rw [t_me]; rfl)).trans e_sc) ?_
      refine cx_gi (pc_q := 79) (c := 10) (q := 15) (v := Fx (sc) (15 : Int)) rfl rfl (by decide) (by decide) (Or.inl rfl) rfl ho117.1 ho117.2 rfl ?_
      have b1077 : (-2147483648 : Int) ≤ Fx (sc) (15 : Int) ∧ Fx (sc) (15 : Int) ≤ 2147483647 := by have z := HC_i (c := 10) (q := 15) hCx ho117.1 ho117.2 (by decide) rfl; rw [show Fx (sc) ((15 : Nat) : Int) = Fx (sc) (15 : Int) from rfl] at z; exact z
      refine jx_ar (pc_q := 81) (st_q := [.int (i32 (55)), .int (i32 (Fx (sc) (15 : Int)))]) rfl rfl rfl rfl ?_
      refine jx_icmp_eq (pc_q := 84) (tg := 100) rfl rfl rfl (by omega) (by omega) (by decide) (by decide) (fun h1078 => ?_) (fun h1078 => ?_)
      · have _q := h1078
        have t1079 : tz (Fx (sc) (15 : Int)) = 1 := tz_p (by omega)
        refine jx_ld (pc_q := 101) (l_q := L1071) (st_q := [rv (me)]) rfl (jl_rvn g1072) ?_
        refine jx_ar (pc_q := 102) (st_q := [.int (i32 (4)), rv (me)]) rfl rfl rfl rfl ?_
        refine jx_ld (pc_q := 103) (l_q := L1071) (st_q := [rv (me), .int (i32 (4)), rv (me)]) rfl (jl_rvn g1072) ?_
        refine cx_gr (pc_q := 106) (c := 8) (q := 1) (v := sc) rfl rfl (by decide) (by decide) rfl rfl ho115.1 ho115.2 ((show Fx (me) (1 : Int) = F (me) (1 : Int) from hMx _ _ o_me (fun w => by have q1 := ho115.2; rw [w, ho116.2] at q1; exact absurd q1 (by decide)) (by rw [t_me]; rfl)).trans e_sc) ?_
        refine cx_gi (pc_q := 109) (c := 10) (q := 16) (v := Fx (sc) (16 : Int)) rfl rfl (by decide) (by decide) (Or.inl rfl) rfl ho117.1 ho117.2 rfl ?_
        have b1080 : (-2147483648 : Int) ≤ Fx (sc) (16 : Int) ∧ Fx (sc) (16 : Int) ≤ 2147483647 := by have z := HC_i (c := 10) (q := 16) hCx ho117.1 ho117.2 (by decide) rfl; rw [show Fx (sc) ((16 : Nat) : Int) = Fx (sc) (16 : Int) from rfl] at z; exact z
        have q1081 : Fx (sc) (7 : Int) = F (sc) (7 : Int) := (show Fx (sc) (7 : Int) = F (sc) (7 : Int) from hMx _ _ o_sc (fun w => by have q1 := ho117.2; rw [w, ho116.2] at q1; exact absurd q1 (by decide)) (by rw [t_sc]; rfl))
        refine cx_vi (c := 8) (a := me) (st := []) (as := [.int (i32 (4)), .int (i32 (Fx (sc) (16 : Int)))]) rfl rfl rfl ho115.1 ho115.2 (by decide) rfl ⟨rfl, rfl, (Nat.le_of_ble_eq_true rfl)⟩ rfl (k_LParser_fail (dd := d) (R := R) (m := mx) (tg := tgx) (ln := lnx) (F := Fx) (me := me) (kd := 4) (pl := Fx (sc) (16 : Int)) (hd := by omega) (hC := hCx) (o_me := ho115.1) (t_me := ho115.2) (h_kd := by omega) (h_pl := by omega) (sc := sc) (pg := pg) (o_sc := ho117.1) (t_sc := ho117.2) (e_sc := ((show Fx (me) (1 : Int) = F (me) (1 : Int) from hMx _ _ o_me (fun w => by have q1 := ho115.2; rw [w, ho116.2] at q1; exact absurd q1 (by decide)) (by rw [t_me]; rfl)).trans e_sc)) (o_pg := ho118.1) (t_pg := ho118.2) (e_pg := ((show Fx (me) (0 : Int) = F (me) (0 : Int) from hMx _ _ o_me (fun w => by have q1 := ho115.2; rw [w, ho116.2] at q1; exact absurd q1 (by decide)) (by rw [t_me]; rfl)).trans e_pg)) (p_0 := by omega) (p_1 := by omega) (c_NP := cx_NP)) (fun o V_q hq => ?_)
        obtain ⟨m1082, tg1082, ln1082, F1083, rfl, rfl, hx1084, hC1085, hM1086, p1087, c1088, c1089, -⟩ | ⟨m1090, tg1090, ln1090, F1090, x1090, rfl, rfl, hx1090, hC1090, hM1090, ho1090, ht1090, p1091, p1092, p1093, p1094, c1095, c1096, -⟩ := hq
        rotate_left
        ·
          have c1097 : NM m m1090 tg1090 := NM_t cx_NM hx1090 c1096
          have lm1098 := hx1090.1
          refine Or.inr (Or.inr (Or.inr ⟨_, _, rfl, cx_exc (c := 15) ho1090 ht1090 (by decide), rfl, ?_⟩))
          have q1099 : Fx (sc) (7 : Int) = F (sc) (7 : Int) := (show Fx (sc) (7 : Int) = F (sc) (7 : Int) from hMx _ _ o_sc (fun w => by have q1 := ho117.2; rw [w, ho116.2] at q1; exact absurd q1 (by decide)) (by rw [t_sc]; rfl))
          exact Or.inr ⟨m1090, tg1090, ln1090, F1090, x1090, rfl, rfl, Ex_t hXx hx1090, hC1090, Fq_t (ln := ln) (ln1 := lnx) hMx hXx hM1090 (by decide) (Or.inr (Or.inl rfl)), (And.intro ho1090 ht1090).1, (And.intro ho1090 ht1090).2, by omega, by omega, by omega, by omega, c1095, c1097, trivial⟩
        exact p1087.elim
      · have _q := h1078
        refine jx_ld (pc_q := 86) (l_q := L1071) (st_q := [.int (i32 (1))]) rfl (jl_iload g1076) ?_
        refine jx_if_eq (pc_q := 89) (tg := 112) rfl rfl rfl (by decide) (by decide) (fun h1100 => ?_) (fun h1100 => ?_)
        · have _q := h1100
          exact absurd h1100 (by omega)
        · have _q := h1100
          refine jx_ld (pc_q := 90) (l_q := L1071) (st_q := [rv (me)]) rfl (jl_rvn g1072) ?_
          refine cx_gr (pc_q := 93) (c := 8) (q := 1) (v := sc) rfl rfl (by decide) (by decide) rfl rfl ho115.1 ho115.2 ((show Fx (me) (1 : Int) = F (me) (1 : Int) from hMx _ _ o_me (fun w => by have q1 := ho115.2; rw [w, ho116.2] at q1; exact absurd q1 (by decide)) (by rw [t_me]; rfl)).trans e_sc) ?_
          refine cx_gi (pc_q := 96) (c := 10) (q := 15) (v := Fx (sc) (15 : Int)) rfl rfl (by decide) (by decide) (Or.inl rfl) rfl ho117.1 ho117.2 rfl ?_
          refine jx_ar (pc_q := 97) (st_q := [.int (i32 (2)), .int (i32 (Fx (sc) (15 : Int)))]) rfl rfl rfl rfl ?_
          refine jx_icmp_eq (pc_q := 100) (tg := 112) rfl rfl rfl (by omega) (by omega) (by decide) (by decide) (fun h1101 => ?_) (fun h1101 => ?_)
          · have _q := h1101
            have t1102 : tz (Fx (sc) (15 : Int)) = 1 := tz_p (by omega)
            refine jx_ld (pc_q := 113) (l_q := L1071) (st_q := [rv (pa)]) rfl (jl_rvn g1075) ?_
            refine cx_gi (pc_q := 116) (c := 6) (q := 0) (v := F (pa) (0 : Int)) rfl rfl (by decide) (by decide) (Or.inl rfl) rfl ho122.1 ho122.2 (show Fx (pa) (0 : Int) = F (pa) (0 : Int) from hMx _ _ pq.1 (fun w => by have q1 := ho122.2; rw [w, ho116.2] at q1; exact absurd q1 (by decide)) (by rw [pq.2]; rfl)) ?_
            refine jx_ar (pc_q := 118) (st_q := [.int (i32 (6)), .int (i32 (F (pa) (0 : Int)))]) rfl rfl rfl rfl ?_
            refine jx_icmp_ne (pc_q := 121) (tg := 134) rfl rfl rfl (by omega) (by omega) (by decide) (by decide) (fun h1103 => ?_) (fun h1103 => ?_)
            · have _q := h1103
              refine jx_ld (pc_q := 135) (l_q := L1071) (st_q := [rv (pa)]) rfl (jl_rvn g1075) ?_
              refine cx_gi (pc_q := 138) (c := 6) (q := 0) (v := F (pa) (0 : Int)) rfl rfl (by decide) (by decide) (Or.inl rfl) rfl ho122.1 ho122.2 (show Fx (pa) (0 : Int) = F (pa) (0 : Int) from hMx _ _ pq.1 (fun w => by have q1 := ho122.2; rw [w, ho116.2] at q1; exact absurd q1 (by decide)) (by rw [pq.2]; rfl)) ?_
              refine jx_ar (pc_q := 140) (st_q := [.int (i32 (8)), .int (i32 (F (pa) (0 : Int)))]) rfl rfl rfl rfl ?_
              refine jx_icmp_ne (pc_q := 143) (tg := 159) rfl rfl rfl (by omega) (by omega) (by decide) (by decide) (fun h1104 => ?_) (fun h1104 => ?_)
              · have _q := h1104
                refine jx_ld (pc_q := 161) (l_q := L1071) (st_q := [.int (i32 (1))]) rfl (jl_iload g1076) ?_
                refine jx_if_eq (pc_q := 164) (tg := 178) rfl rfl rfl (by decide) (by decide) (fun h1105 => ?_) (fun h1105 => ?_)
                · have _q := h1105
                  exact absurd h1105 (by omega)
                · have _q := h1105
                  refine jx_ld (pc_q := 165) (l_q := L1071) (st_q := [rv (me)]) rfl (jl_rvn g1072) ?_
                  refine jx_ld (pc_q := 166) (l_q := L1071) (st_q := [rv (me), rv (me)]) rfl (jl_rvn g1072) ?_
                  have q1106 := tz_b (Fx (sc) (15 : Int))
                  have q1107 : Fx (sc) (7 : Int) = F (sc) (7 : Int) := (show Fx (sc) (7 : Int) = F (sc) (7 : Int) from hMx _ _ o_sc (fun w => by have q1 := ho117.2; rw [w, ho116.2] at q1; exact absurd q1 (by decide)) (by rw [t_sc]; rfl))
                  have q1108 := lz_b (Fx (sc) (14 : Int))
                  refine cx_vi (c := 8) (a := me) (st := [rv (me)]) (as := []) rfl rfl rfl ho115.1 ho115.2 (by decide) rfl ⟨rfl, rfl, (by rw [jS_r, jS_0]; exact Nat.le_of_ble_eq_true rfl)⟩ rfl (k_LParser_known (dd := d) (R := R) (m := mx) (tg := tgx) (ln := lnx) (F := Fx) (me := me) (hd := by omega) (hC := hCx) (o_me := ho115.1) (t_me := ho115.2) (sc := sc) (pg := pg) (o_sc := ho117.1) (t_sc := ho117.2) (e_sc := ((show Fx (me) (1 : Int) = F (me) (1 : Int) from hMx _ _ o_me (fun w => by have q1 := ho115.2; rw [w, ho116.2] at q1; exact absurd q1 (by decide)) (by rw [t_me]; rfl)).trans e_sc)) (o_pg := ho118.1) (t_pg := ho118.2) (e_pg := ((show Fx (me) (0 : Int) = F (me) (0 : Int) from hMx _ _ o_me (fun w => by have q1 := ho115.2; rw [w, ho116.2] at q1; exact absurd q1 (by decide)) (by rw [t_me]; rfl)).trans e_pg)) (p_0 := by omega) (p_1 := by omega) (p_2 := by omega) (c_NP := cx_NP)) (fun o V_q hq => ?_)
                  obtain ⟨m1109, tg1109, ln1109, F1110, r1111, rfl, rfl, hx1112, hC1113, hM1114, b1115, p1116, p1117, p1118, p1119, p1120, p1121, p1122, c1123, c1124, -⟩ | ⟨m1125, tg1125, ln1125, F1125, x1125, rfl, rfl, hx1125, hC1125, hM1125, ho1125, ht1125, p1126, p1127, p1128, p1129, c1130, c1131, -⟩ := hq
                  rotate_left
                  ·
                    have c1132 : NM m m1125 tg1125 := NM_t cx_NM hx1125 c1131
                    have lm1133 := hx1125.1
                    refine Or.inr (Or.inr (Or.inr ⟨_, _, rfl, cx_exc (c := 15) ho1125 ht1125 (by decide), rfl, ?_⟩))
                    have q1134 : Fx (sc) (7 : Int) = F (sc) (7 : Int) := (show Fx (sc) (7 : Int) = F (sc) (7 : Int) from hMx _ _ o_sc (fun w => by have q1 := ho117.2; rw [w, ho116.2] at q1; exact absurd q1 (by decide)) (by rw [t_sc]; rfl))
                    exact Or.inr ⟨m1125, tg1125, ln1125, F1125, x1125, rfl, rfl, Ex_t hXx hx1125, hC1125, Fq_t (ln := ln) (ln1 := lnx) hMx hXx hM1125 (by decide) (Or.inr (Or.inl rfl)), (And.intro ho1125 ht1125).1, (And.intro ho1125 ht1125).2, by omega, by omega, by omega, by omega, c1130, c1132, trivial⟩
                  have hM1135 : Fq cl [(9, 3), (10, 0), (10, 1), (10, 2), (10, 9), (11, 8), (11, 12), (11, 13), (11, 14), (11, 15), (11, 16), (11, 17), (11, 18)] m tg F F1110 := Fq_t (ln := ln) (ln1 := lnx) hMx hXx hM1114 (by decide) (Or.inr (Or.inl rfl))
                  have lm1136 := hx1112.1
                  have lt1137 : cl < 64 + (mx : Int) := ho116.1.2.1
                  have lt1138 : la < 64 + (mx : Int) := ho775.1.2.1
                  have lt1139 : pa < 64 + (mx : Int) := ho122.1.2.1
                  have lt1140 : nm < 64 + (mx : Int) := ho119.1.2.1
                  have ho1141 : own m1109 (me) ∧ tg1109 (me) = 9 := Ex_o hx1112 ⟨ho115.1, ho115.2⟩
                  have ho1142 : own m1109 (cl) ∧ tg1109 (cl) = 8 := Ex_o hx1112 ⟨ho116.1, ho116.2⟩
                  have ho1143 : own m1109 (la) ∧ tg1109 (la) = 8 := Ex_o hx1112 ⟨ho775.1, ho775.2⟩
                  have ho1144 : own m1109 (pa) ∧ tg1109 (pa) = 7 := Ex_o hx1112 ⟨ho122.1, ho122.2⟩
                  have ho1145 : own m1109 (sc) ∧ tg1109 (sc) = 11 := Ex_o hx1112 ⟨ho117.1, ho117.2⟩
                  have ho1146 : own m1109 (pg) ∧ tg1109 (pg) = 10 := Ex_o hx1112 ⟨ho118.1, ho118.2⟩
                  have ho1147 : own m1109 (nm) ∧ tg1109 (nm) = 7 := Ex_o hx1112 ⟨ho119.1, ho119.2⟩
                  have hX1148 := Ex_t hXx hx1112
                  have w1149 : WK F1110 cl (21) := WK_q wx_cl hCx ho116.1 ho116.2 hM1114 rfl
                  have c1150 : NM m m1109 tg1109 := NM_t cx_NM hx1112 c1124
                  refine Or.inr (Or.inl ⟨_, rfl, ?_⟩)
                  refine cx_vi (c := 6) (a := r1111) (st := [rv (me)]) (as := []) rfl rfl rfl b1115.1 b1115.2 (by decide) rfl ⟨rfl, rfl, (by rw [jS_r, jS_0]; exact Nat.le_of_ble_eq_true rfl)⟩ rfl (k_LName_isTarget (dd := d) (R := R) (m := m1109) (tg := tg1109) (ln := ln1109) (F := F1110) (me := r1111) (hd := by omega) (hC := hC1113) (o_me := b1115.1) (t_me := b1115.2)) (fun o V_q hq => ?_)
                  obtain ⟨r1151, rfl, rfl, b1152, -⟩ := hq
                  refine Or.inr (Or.inl ⟨_, rfl, ?_⟩)
                  have b1153 : (0 : Int) ≤ Fx (me) (3 : Int) ∧ Fx (me) (3 : Int) ≤ 8 := by have z := HC_i (c := 8) (q := 3) hC1113 ho1141.1 ho1141.2 (by decide) rfl; rw [show F1110 (me) ((3 : Nat) : Int) = Fx (me) (3 : Int) from (show F1110 (me) (3 : Int) = Fx (me) (3 : Int) from hM1114 _ _ ho115.1 (own_z ho115.1) (by rw [ho115.2]; rfl))] at z; exact z
                  have q1154 : F1110 (sc) (8 : Int) = Fx (sc) (8 : Int) := (show F1110 (sc) (8 : Int) = Fx (sc) (8 : Int) from hM1114 _ _ ho117.1 (own_z ho117.1) (by rw [ho117.2]; rfl))
                  have q1155 : F1110 (sc) (15 : Int) = Fx (sc) (15 : Int) := (show F1110 (sc) (15 : Int) = Fx (sc) (15 : Int) from hM1114 _ _ ho117.1 (own_z ho117.1) (by rw [ho117.2]; rfl))
                  have q1156 : tz (F1110 (sc) (15 : Int)) = tz (Fx (sc) (15 : Int)) := by rw [q1155]
                  have q1157 := tz_b (Fx (sc) (15 : Int))
                  have q1158 : F1110 (sc) (7 : Int) = F (sc) (7 : Int) := ((show F1110 (sc) (7 : Int) = Fx (sc) (7 : Int) from hM1114 _ _ ho117.1 (own_z ho117.1) (by rw [ho117.2]; rfl)).trans (show Fx (sc) (7 : Int) = F (sc) (7 : Int) from hMx _ _ o_sc (fun w => by have q1 := ho1145.2; rw [w, ho1142.2] at q1; exact absurd q1 (by decide)) (by rw [t_sc]; rfl)))
                  have q1159 : F1110 (sc) (14 : Int) = Fx (sc) (14 : Int) := (show F1110 (sc) (14 : Int) = Fx (sc) (14 : Int) from hM1114 _ _ ho117.1 (own_z ho117.1) (by rw [ho117.2]; rfl))
                  have q1160 : lz (F1110 (sc) (14 : Int)) = lz (Fx (sc) (14 : Int)) := by rw [q1159]
                  have q1161 := lz_b (Fx (sc) (14 : Int))
                  have q1162 : F1110 (me) (3 : Int) = Fx (me) (3 : Int) := (show F1110 (me) (3 : Int) = Fx (me) (3 : Int) from hM1114 _ _ ho115.1 (own_z ho115.1) (by rw [ho115.2]; rfl))
                  have q1163 : F1110 (pg) (9 : Int) = Fx (pg) (9 : Int) := (show F1110 (pg) (9 : Int) = Fx (pg) (9 : Int) from hM1114 _ _ ho118.1 (own_z ho118.1) (by rw [ho118.2]; rfl))
                  refine cx_vi (c := 8) (a := me) (st := []) (as := [.int (i32 (r1151))]) rfl rfl rfl ho1141.1 ho1141.2 (by decide) rfl ⟨rfl, rfl, (Nat.le_of_ble_eq_true rfl)⟩ rfl (k_LParser_judged (dd := d) (R := R) (m := m1109) (tg := tg1109) (ln := ln1109) (F := F1110) (kk := 9) (hE := fun _ => PEx_all X _) (me := me) (wa := r1151) (hd := by omega) (hC := hC1113) (o_me := ho1141.1) (t_me := ho1141.2) (h_wa := by omega) (sc := sc) (pg := pg) (o_sc := ho1145.1) (t_sc := ho1145.2) (e_sc := (((show F1110 (me) (1 : Int) = Fx (me) (1 : Int) from hM1114 _ _ ho115.1 (own_z ho115.1) (by rw [ho115.2]; rfl)).trans (show Fx (me) (1 : Int) = F (me) (1 : Int) from hMx _ _ o_me (fun w => by have q1 := ho1141.2; rw [w, ho1142.2] at q1; exact absurd q1 (by decide)) (by rw [t_me]; rfl))).trans e_sc)) (o_pg := ho1146.1) (t_pg := ho1146.2) (e_pg := (((show F1110 (me) (0 : Int) = Fx (me) (0 : Int) from hM1114 _ _ ho115.1 (own_z ho115.1) (by rw [ho115.2]; rfl)).trans (show Fx (me) (0 : Int) = F (me) (0 : Int) from hMx _ _ o_me (fun w => by have q1 := ho1141.2; rw [w, ho1142.2] at q1; exact absurd q1 (by decide)) (by rw [t_me]; rfl))).trans e_pg)) (p_0 := by omega) (p_1 := by omega) (p_2 := by omega) (p_3 := by omega) (p_4 := by omega) (c_NP := c1123)) (fun o V_q hq => ?_)
                  obtain ⟨m1164, tg1164, ln1164, F1165, r1166, rfl, rfl, hx1167, hC1168, hM1169, b1170, p1171, p1172, p1173, p1174, p1175, p1176, p1177, p1178, p1179, p1180, p1181, p1182, c1183, c1184, -⟩ | ⟨m1185, tg1185, ln1185, F1185, x1185, rfl, rfl, hx1185, hC1185, hM1185, ho1185, ht1185, p1186, p1187, p1188, p1189, c1190, c1191, -⟩ := hq
                  rotate_left
                  ·
                    have c1192 : NM m m1185 tg1185 := NM_t c1150 hx1185 c1191
                    have lm1193 := hx1185.1
                    refine Or.inr (Or.inr (Or.inr ⟨_, _, rfl, cx_exc (c := 15) ho1185 ht1185 (by decide), rfl, ?_⟩))
                    have q1194 : F1110 (sc) (8 : Int) = Fx (sc) (8 : Int) := q1154
                    have q1195 : F1110 (sc) (7 : Int) = F (sc) (7 : Int) := q1158
                    exact Or.inr ⟨m1185, tg1185, ln1185, F1185, x1185, rfl, rfl, Ex_t hX1148 hx1185, hC1185, Fq_t (ln := ln) (ln1 := ln1109) hM1135 hX1148 hM1185 (by decide) (Or.inr (Or.inl rfl)), (And.intro ho1185 ht1185).1, (And.intro ho1185 ht1185).2, by omega, by omega, by omega, by omega, c1190, c1192, trivial⟩
                  have hM1196 : Fq cl [(9, 3), (10, 0), (10, 1), (10, 2), (10, 9), (11, 8), (11, 12), (11, 13), (11, 14), (11, 15), (11, 16), (11, 17), (11, 18)] m tg F F1165 := Fq_t (ln := ln) (ln1 := ln1109) hM1135 hX1148 hM1169 (by decide) (Or.inr (Or.inl rfl))
                  have lm1197 := hx1167.1
                  have lt1198 : cl < 64 + (m1109 : Int) := ho1142.1.2.1
                  have lt1199 : la < 64 + (m1109 : Int) := ho1143.1.2.1
                  have lt1200 : pa < 64 + (m1109 : Int) := ho1144.1.2.1
                  have lt1201 : nm < 64 + (m1109 : Int) := ho1147.1.2.1
                  have ho1202 : own m1164 (me) ∧ tg1164 (me) = 9 := Ex_o hx1167 ⟨ho1141.1, ho1141.2⟩
                  have ho1203 : own m1164 (cl) ∧ tg1164 (cl) = 8 := Ex_o hx1167 ⟨ho1142.1, ho1142.2⟩
                  have ho1204 : own m1164 (la) ∧ tg1164 (la) = 8 := Ex_o hx1167 ⟨ho1143.1, ho1143.2⟩
                  have ho1205 : own m1164 (pa) ∧ tg1164 (pa) = 7 := Ex_o hx1167 ⟨ho1144.1, ho1144.2⟩
                  have ho1206 : own m1164 (sc) ∧ tg1164 (sc) = 11 := Ex_o hx1167 ⟨ho1145.1, ho1145.2⟩
                  have ho1207 : own m1164 (pg) ∧ tg1164 (pg) = 10 := Ex_o hx1167 ⟨ho1146.1, ho1146.2⟩
                  have ho1208 : own m1164 (nm) ∧ tg1164 (nm) = 7 := Ex_o hx1167 ⟨ho1147.1, ho1147.2⟩
                  have hX1209 := Ex_t hX1148 hx1167
                  have w1210 : WK F1165 cl (21) := WK_q w1149 hC1113 ho1142.1 ho1142.2 hM1169 rfl
                  have q1211 := p1179.1
                  have q1212 := p1179.2.1
                  have q1213 := p1179.2.2.1
                  have c1214 : NM m m1164 tg1164 := NM_t c1150 hx1167 c1184
                  refine Or.inr (Or.inl ⟨_, rfl, ?_⟩)
                  refine jx_go (tg := 182) rfl rfl ?_
                  refine jx_ld (pc_q := 184) (l_q := jSto1 L1071 5 (rv (r1166))) (st_q := []) rfl (js_rv (by decide)) ?_
                  obtain ⟨L1215, eL1215⟩ : ∃ q : jL, q = jSto1 L1071 5 (rv (r1166)) := ⟨_, rfl⟩
                  rw [← eL1215]
                  have g1216 : jGet L1215 0 = some (rv (me)) := eL1215 ▸ jg_nr (by decide) g1072
                  have g1217 : jGet L1215 1 = some (rv (cl)) := eL1215 ▸ jg_nr (by decide) g1073
                  have g1218 : jGet L1215 2 = some (rv (la)) := eL1215 ▸ jg_nr (by decide) g1074
                  have g1219 : jGet L1215 3 = some (rv (pa)) := eL1215 ▸ jg_nr (by decide) g1075
                  have g1220 : jGet L1215 4 = some (.int (i32 (1))) := eL1215 ▸ jg_ne (by decide) g1076 rfl
                  have g1221 : jGet L1215 5 = some (rv (r1166)) := eL1215 ▸ jg_eq
                  clear eL1215
                  have q1222 := tz_b (F1165 (sc) (15 : Int))
                  have q1223 := lz_b (F1165 (sc) (14 : Int))
                  have q1224 : F1165 (cl) (0 : Int) = Fx (cl) (0 : Int) := ((show F1165 (cl) (0 : Int) = F1110 (cl) (0 : Int) from hM1169 _ _ ho1142.1 (own_z ho1142.1) (by rw [ho1142.2]; rfl)).trans (show F1110 (cl) (0 : Int) = Fx (cl) (0 : Int) from hM1114 _ _ ho116.1 (own_z ho116.1) (by rw [ho116.2]; rfl)))
                  have q1225 : F1165 (cl) (3 : Int) = nm := (((show F1165 (cl) (3 : Int) = F1110 (cl) (3 : Int) from hM1169 _ _ ho1142.1 (own_z ho1142.1) (by rw [ho1142.2]; rfl)).trans (show F1110 (cl) (3 : Int) = Fx (cl) (3 : Int) from hM1114 _ _ ho116.1 (own_z ho116.1) (by rw [ho116.2]; rfl))).trans iv_9)
                  have q1226 : F1165 (la) (103 : Int) = Fx (la) (103 : Int) := ((show F1165 (la) (103 : Int) = F1110 (la) (103 : Int) from hM1169 _ _ ho1143.1 (own_z ho1143.1) (by rw [ho1143.2]; rfl)).trans (show F1110 (la) (103 : Int) = Fx (la) (103 : Int) from hM1114 _ _ ho775.1 (own_z ho775.1) (by rw [ho775.2]; rfl)))
                  have q1227 : F1165 (la) (100 : Int) = Fx (la) (100 : Int) := ((show F1165 (la) (100 : Int) = F1110 (la) (100 : Int) from hM1169 _ _ ho1143.1 (own_z ho1143.1) (by rw [ho1143.2]; rfl)).trans (show F1110 (la) (100 : Int) = Fx (la) (100 : Int) from hM1114 _ _ ho775.1 (own_z ho775.1) (by rw [ho775.2]; rfl)))
                  have q1228 : F1165 (la) (101 : Int) = Fx (la) (101 : Int) := ((show F1165 (la) (101 : Int) = F1110 (la) (101 : Int) from hM1169 _ _ ho1143.1 (own_z ho1143.1) (by rw [ho1143.2]; rfl)).trans (show F1110 (la) (101 : Int) = Fx (la) (101 : Int) from hM1114 _ _ ho775.1 (own_z ho775.1) (by rw [ho775.2]; rfl)))
                  exact k_LParser_readArguments_at_184 (X := X) (d := d) (R := R) (m := m) (tg := tg) (ln := ln) (F := F) (me := me) (cl := cl) (hd := hd) (hC := hC) (sc := sc) (pg := pg) (o_sc := o_sc) (t_sc := t_sc) (e_sc := e_sc) (o_pg := o_pg) (t_pg := t_pg) (e_pg := e_pg) (o_me := o_me) (t_me := t_me) (o_cl := o_cl) (t_cl := t_cl) (nm := nm) (o_nm := o_nm) (t_nm := t_nm) (p_0 := p_0) (p_1 := p_1) (p_2 := p_2) (p_3 := p_3) (p_4 := p_4) (p_5 := p_5) (p_6 := p_6) (p_7 := p_7) (p_8 := p_8) (p_9 := p_9) (p_10 := p_10) (p_11 := p_11) (c_NP := c_NP) (mm0 := mm0) (ih := ih) L1215 m1164 tg1164 ln1164 F1165 (la) (pa) (r1166) (by omega) g1216 g1217 g1218 g1219 g1221 hX1209 hC1168 hM1196 (Or.inr ⟨ho1204.1, ho1204.2⟩) (Or.inr ⟨ho1205.1, ho1205.2⟩) (Or.inr ⟨b1170.1, b1170.2⟩) (by omega) (by omega) (by omega) (by omega) (by omega) (by omega) (by omega) (by omega) (by omega) (by omega) (by omega) (by omega) (Or.inr ⟨pq.1, pq.2⟩) (iv_13.imp_right (fun w => by rw [show F1165 (la) (101 : Int) = Fx (la) (101 : Int) from ((show F1165 (la) (101 : Int) = F1110 (la) (101 : Int) from hM1169 _ _ ho1143.1 (own_z ho1143.1) (by rw [ho1143.2]; rfl)).trans (show F1110 (la) (101 : Int) = Fx (la) (101 : Int) from hM1114 _ _ ho775.1 (own_z ho775.1) (by rw [ho775.2]; rfl)))]; exact w)) (by omega) (by omega) (by omega) (by omega) c1183 c1214 (WK_m w1210 (by omega)) (WK_m p1179 (by omega))
              · have _q := h1104
                refine jx_ld (pc_q := 144) (l_q := L1071) (st_q := [rv (me)]) rfl (jl_rvn g1072) ?_
                refine jx_ld (pc_q := 145) (l_q := L1071) (st_q := [rv (me), rv (me)]) rfl (jl_rvn g1072) ?_
                have q1229 := tz_b (Fx (sc) (15 : Int))
                have q1230 : Fx (sc) (7 : Int) = F (sc) (7 : Int) := (show Fx (sc) (7 : Int) = F (sc) (7 : Int) from hMx _ _ o_sc (fun w => by have q1 := ho117.2; rw [w, ho116.2] at q1; exact absurd q1 (by decide)) (by rw [t_sc]; rfl))
                have q1231 := lz_b (Fx (sc) (14 : Int))
                refine cx_vi (c := 8) (a := me) (st := [rv (me)]) (as := []) rfl rfl rfl ho115.1 ho115.2 (by decide) rfl ⟨rfl, rfl, (by rw [jS_r, jS_0]; exact Nat.le_of_ble_eq_true rfl)⟩ rfl (k_LParser_known (dd := d) (R := R) (m := mx) (tg := tgx) (ln := lnx) (F := Fx) (me := me) (hd := by omega) (hC := hCx) (o_me := ho115.1) (t_me := ho115.2) (sc := sc) (pg := pg) (o_sc := ho117.1) (t_sc := ho117.2) (e_sc := ((show Fx (me) (1 : Int) = F (me) (1 : Int) from hMx _ _ o_me (fun w => by have q1 := ho115.2; rw [w, ho116.2] at q1; exact absurd q1 (by decide)) (by rw [t_me]; rfl)).trans e_sc)) (o_pg := ho118.1) (t_pg := ho118.2) (e_pg := ((show Fx (me) (0 : Int) = F (me) (0 : Int) from hMx _ _ o_me (fun w => by have q1 := ho115.2; rw [w, ho116.2] at q1; exact absurd q1 (by decide)) (by rw [t_me]; rfl)).trans e_pg)) (p_0 := by omega) (p_1 := by omega) (p_2 := by omega) (c_NP := cx_NP)) (fun o V_q hq => ?_)
                obtain ⟨m1232, tg1232, ln1232, F1233, r1234, rfl, rfl, hx1235, hC1236, hM1237, b1238, p1239, p1240, p1241, p1242, p1243, p1244, p1245, c1246, c1247, -⟩ | ⟨m1248, tg1248, ln1248, F1248, x1248, rfl, rfl, hx1248, hC1248, hM1248, ho1248, ht1248, p1249, p1250, p1251, p1252, c1253, c1254, -⟩ := hq
                rotate_left
                ·
                  have c1255 : NM m m1248 tg1248 := NM_t cx_NM hx1248 c1254
                  have lm1256 := hx1248.1
                  refine Or.inr (Or.inr (Or.inr ⟨_, _, rfl, cx_exc (c := 15) ho1248 ht1248 (by decide), rfl, ?_⟩))
                  have q1257 : Fx (sc) (7 : Int) = F (sc) (7 : Int) := (show Fx (sc) (7 : Int) = F (sc) (7 : Int) from hMx _ _ o_sc (fun w => by have q1 := ho117.2; rw [w, ho116.2] at q1; exact absurd q1 (by decide)) (by rw [t_sc]; rfl))
                  exact Or.inr ⟨m1248, tg1248, ln1248, F1248, x1248, rfl, rfl, Ex_t hXx hx1248, hC1248, Fq_t (ln := ln) (ln1 := lnx) hMx hXx hM1248 (by decide) (Or.inr (Or.inl rfl)), (And.intro ho1248 ht1248).1, (And.intro ho1248 ht1248).2, by omega, by omega, by omega, by omega, c1253, c1255, trivial⟩
                have hM1258 : Fq cl [(9, 3), (10, 0), (10, 1), (10, 2), (10, 9), (11, 8), (11, 12), (11, 13), (11, 14), (11, 15), (11, 16), (11, 17), (11, 18)] m tg F F1233 := Fq_t (ln := ln) (ln1 := lnx) hMx hXx hM1237 (by decide) (Or.inr (Or.inl rfl))
                have lm1259 := hx1235.1
                have lt1260 : cl < 64 + (mx : Int) := ho116.1.2.1
                have lt1261 : la < 64 + (mx : Int) := ho775.1.2.1
                have lt1262 : pa < 64 + (mx : Int) := ho122.1.2.1
                have lt1263 : nm < 64 + (mx : Int) := ho119.1.2.1
                have ho1264 : own m1232 (me) ∧ tg1232 (me) = 9 := Ex_o hx1235 ⟨ho115.1, ho115.2⟩
                have ho1265 : own m1232 (cl) ∧ tg1232 (cl) = 8 := Ex_o hx1235 ⟨ho116.1, ho116.2⟩
                have ho1266 : own m1232 (la) ∧ tg1232 (la) = 8 := Ex_o hx1235 ⟨ho775.1, ho775.2⟩
                have ho1267 : own m1232 (pa) ∧ tg1232 (pa) = 7 := Ex_o hx1235 ⟨ho122.1, ho122.2⟩
                have ho1268 : own m1232 (sc) ∧ tg1232 (sc) = 11 := Ex_o hx1235 ⟨ho117.1, ho117.2⟩
                have ho1269 : own m1232 (pg) ∧ tg1232 (pg) = 10 := Ex_o hx1235 ⟨ho118.1, ho118.2⟩
                have ho1270 : own m1232 (nm) ∧ tg1232 (nm) = 7 := Ex_o hx1235 ⟨ho119.1, ho119.2⟩
                have hX1271 := Ex_t hXx hx1235
                have w1272 : WK F1233 cl (21) := WK_q wx_cl hCx ho116.1 ho116.2 hM1237 rfl
                have c1273 : NM m m1232 tg1232 := NM_t cx_NM hx1235 c1247
                refine Or.inr (Or.inl ⟨_, rfl, ?_⟩)
                refine cx_vi (c := 6) (a := r1234) (st := [rv (me)]) (as := []) rfl rfl rfl b1238.1 b1238.2 (by decide) rfl ⟨rfl, rfl, (by rw [jS_r, jS_0]; exact Nat.le_of_ble_eq_true rfl)⟩ rfl (k_LName_isChannel (dd := d) (R := R) (m := m1232) (tg := tg1232) (ln := ln1232) (F := F1233) (me := r1234) (hd := by omega) (hC := hC1236) (o_me := b1238.1) (t_me := b1238.2)) (fun o V_q hq => ?_)
                obtain ⟨r1274, rfl, rfl, b1275, -⟩ := hq
                refine Or.inr (Or.inl ⟨_, rfl, ?_⟩)
                have b1276 : (0 : Int) ≤ Fx (me) (3 : Int) ∧ Fx (me) (3 : Int) ≤ 8 := by have z := HC_i (c := 8) (q := 3) hC1236 ho1264.1 ho1264.2 (by decide) rfl; rw [show F1233 (me) ((3 : Nat) : Int) = Fx (me) (3 : Int) from (show F1233 (me) (3 : Int) = Fx (me) (3 : Int) from hM1237 _ _ ho115.1 (own_z ho115.1) (by rw [ho115.2]; rfl))] at z; exact z
                have q1277 : F1233 (sc) (8 : Int) = Fx (sc) (8 : Int) := (show F1233 (sc) (8 : Int) = Fx (sc) (8 : Int) from hM1237 _ _ ho117.1 (own_z ho117.1) (by rw [ho117.2]; rfl))
                have q1278 : F1233 (sc) (15 : Int) = Fx (sc) (15 : Int) := (show F1233 (sc) (15 : Int) = Fx (sc) (15 : Int) from hM1237 _ _ ho117.1 (own_z ho117.1) (by rw [ho117.2]; rfl))
                have q1279 : tz (F1233 (sc) (15 : Int)) = tz (Fx (sc) (15 : Int)) := by rw [q1278]
                have q1280 := tz_b (Fx (sc) (15 : Int))
                have q1281 : F1233 (sc) (7 : Int) = F (sc) (7 : Int) := ((show F1233 (sc) (7 : Int) = Fx (sc) (7 : Int) from hM1237 _ _ ho117.1 (own_z ho117.1) (by rw [ho117.2]; rfl)).trans (show Fx (sc) (7 : Int) = F (sc) (7 : Int) from hMx _ _ o_sc (fun w => by have q1 := ho1268.2; rw [w, ho1265.2] at q1; exact absurd q1 (by decide)) (by rw [t_sc]; rfl)))
                have q1282 : F1233 (sc) (14 : Int) = Fx (sc) (14 : Int) := (show F1233 (sc) (14 : Int) = Fx (sc) (14 : Int) from hM1237 _ _ ho117.1 (own_z ho117.1) (by rw [ho117.2]; rfl))
                have q1283 : lz (F1233 (sc) (14 : Int)) = lz (Fx (sc) (14 : Int)) := by rw [q1282]
                have q1284 := lz_b (Fx (sc) (14 : Int))
                have q1285 : F1233 (me) (3 : Int) = Fx (me) (3 : Int) := (show F1233 (me) (3 : Int) = Fx (me) (3 : Int) from hM1237 _ _ ho115.1 (own_z ho115.1) (by rw [ho115.2]; rfl))
                have q1286 : F1233 (pg) (9 : Int) = Fx (pg) (9 : Int) := (show F1233 (pg) (9 : Int) = Fx (pg) (9 : Int) from hM1237 _ _ ho118.1 (own_z ho118.1) (by rw [ho118.2]; rfl))
                refine cx_vi (c := 8) (a := me) (st := []) (as := [.int (i32 (r1274))]) rfl rfl rfl ho1264.1 ho1264.2 (by decide) rfl ⟨rfl, rfl, (Nat.le_of_ble_eq_true rfl)⟩ rfl (k_LParser_judged (dd := d) (R := R) (m := m1232) (tg := tg1232) (ln := ln1232) (F := F1233) (kk := 9) (hE := fun _ => PEx_all X _) (me := me) (wa := r1274) (hd := by omega) (hC := hC1236) (o_me := ho1264.1) (t_me := ho1264.2) (h_wa := by omega) (sc := sc) (pg := pg) (o_sc := ho1268.1) (t_sc := ho1268.2) (e_sc := (((show F1233 (me) (1 : Int) = Fx (me) (1 : Int) from hM1237 _ _ ho115.1 (own_z ho115.1) (by rw [ho115.2]; rfl)).trans (show Fx (me) (1 : Int) = F (me) (1 : Int) from hMx _ _ o_me (fun w => by have q1 := ho1264.2; rw [w, ho1265.2] at q1; exact absurd q1 (by decide)) (by rw [t_me]; rfl))).trans e_sc)) (o_pg := ho1269.1) (t_pg := ho1269.2) (e_pg := (((show F1233 (me) (0 : Int) = Fx (me) (0 : Int) from hM1237 _ _ ho115.1 (own_z ho115.1) (by rw [ho115.2]; rfl)).trans (show Fx (me) (0 : Int) = F (me) (0 : Int) from hMx _ _ o_me (fun w => by have q1 := ho1264.2; rw [w, ho1265.2] at q1; exact absurd q1 (by decide)) (by rw [t_me]; rfl))).trans e_pg)) (p_0 := by omega) (p_1 := by omega) (p_2 := by omega) (p_3 := by omega) (p_4 := by omega) (c_NP := c1246)) (fun o V_q hq => ?_)
                obtain ⟨m1287, tg1287, ln1287, F1288, r1289, rfl, rfl, hx1290, hC1291, hM1292, b1293, p1294, p1295, p1296, p1297, p1298, p1299, p1300, p1301, p1302, p1303, p1304, p1305, c1306, c1307, -⟩ | ⟨m1308, tg1308, ln1308, F1308, x1308, rfl, rfl, hx1308, hC1308, hM1308, ho1308, ht1308, p1309, p1310, p1311, p1312, c1313, c1314, -⟩ := hq
                rotate_left
                ·
                  have c1315 : NM m m1308 tg1308 := NM_t c1273 hx1308 c1314
                  have lm1316 := hx1308.1
                  refine Or.inr (Or.inr (Or.inr ⟨_, _, rfl, cx_exc (c := 15) ho1308 ht1308 (by decide), rfl, ?_⟩))
                  have q1317 : F1233 (sc) (8 : Int) = Fx (sc) (8 : Int) := q1277
                  have q1318 : F1233 (sc) (7 : Int) = F (sc) (7 : Int) := q1281
                  exact Or.inr ⟨m1308, tg1308, ln1308, F1308, x1308, rfl, rfl, Ex_t hX1271 hx1308, hC1308, Fq_t (ln := ln) (ln1 := ln1232) hM1258 hX1271 hM1308 (by decide) (Or.inr (Or.inl rfl)), (And.intro ho1308 ht1308).1, (And.intro ho1308 ht1308).2, by omega, by omega, by omega, by omega, c1313, c1315, trivial⟩
                have hM1319 : Fq cl [(9, 3), (10, 0), (10, 1), (10, 2), (10, 9), (11, 8), (11, 12), (11, 13), (11, 14), (11, 15), (11, 16), (11, 17), (11, 18)] m tg F F1288 := Fq_t (ln := ln) (ln1 := ln1232) hM1258 hX1271 hM1292 (by decide) (Or.inr (Or.inl rfl))
                have lm1320 := hx1290.1
                have lt1321 : cl < 64 + (m1232 : Int) := ho1265.1.2.1
                have lt1322 : la < 64 + (m1232 : Int) := ho1266.1.2.1
                have lt1323 : pa < 64 + (m1232 : Int) := ho1267.1.2.1
                have lt1324 : nm < 64 + (m1232 : Int) := ho1270.1.2.1
                have ho1325 : own m1287 (me) ∧ tg1287 (me) = 9 := Ex_o hx1290 ⟨ho1264.1, ho1264.2⟩
                have ho1326 : own m1287 (cl) ∧ tg1287 (cl) = 8 := Ex_o hx1290 ⟨ho1265.1, ho1265.2⟩
                have ho1327 : own m1287 (la) ∧ tg1287 (la) = 8 := Ex_o hx1290 ⟨ho1266.1, ho1266.2⟩
                have ho1328 : own m1287 (pa) ∧ tg1287 (pa) = 7 := Ex_o hx1290 ⟨ho1267.1, ho1267.2⟩
                have ho1329 : own m1287 (sc) ∧ tg1287 (sc) = 11 := Ex_o hx1290 ⟨ho1268.1, ho1268.2⟩
                have ho1330 : own m1287 (pg) ∧ tg1287 (pg) = 10 := Ex_o hx1290 ⟨ho1269.1, ho1269.2⟩
                have ho1331 : own m1287 (nm) ∧ tg1287 (nm) = 7 := Ex_o hx1290 ⟨ho1270.1, ho1270.2⟩
                have hX1332 := Ex_t hX1271 hx1290
                have w1333 : WK F1288 cl (21) := WK_q w1272 hC1236 ho1265.1 ho1265.2 hM1292 rfl
                have q1334 := p1302.1
                have q1335 := p1302.2.1
                have q1336 := p1302.2.2.1
                have c1337 : NM m m1287 tg1287 := NM_t c1273 hx1290 c1307
                refine Or.inr (Or.inl ⟨_, rfl, ?_⟩)
                refine jx_ld (pc_q := 156) (l_q := jSto1 L1071 5 (rv (r1289))) (st_q := []) rfl (js_rv (by decide)) ?_
                obtain ⟨L1338, eL1338⟩ : ∃ q : jL, q = jSto1 L1071 5 (rv (r1289)) := ⟨_, rfl⟩
                rw [← eL1338]
                have g1339 : jGet L1338 0 = some (rv (me)) := eL1338 ▸ jg_nr (by decide) g1072
                have g1340 : jGet L1338 1 = some (rv (cl)) := eL1338 ▸ jg_nr (by decide) g1073
                have g1341 : jGet L1338 2 = some (rv (la)) := eL1338 ▸ jg_nr (by decide) g1074
                have g1342 : jGet L1338 3 = some (rv (pa)) := eL1338 ▸ jg_nr (by decide) g1075
                have g1343 : jGet L1338 4 = some (.int (i32 (1))) := eL1338 ▸ jg_ne (by decide) g1076 rfl
                have g1344 : jGet L1338 5 = some (rv (r1289)) := eL1338 ▸ jg_eq
                clear eL1338
                refine jx_go (tg := 184) rfl rfl ?_
                have q1345 := tz_b (F1288 (sc) (15 : Int))
                have q1346 := lz_b (F1288 (sc) (14 : Int))
                have q1347 : F1288 (cl) (0 : Int) = Fx (cl) (0 : Int) := ((show F1288 (cl) (0 : Int) = F1233 (cl) (0 : Int) from hM1292 _ _ ho1265.1 (own_z ho1265.1) (by rw [ho1265.2]; rfl)).trans (show F1233 (cl) (0 : Int) = Fx (cl) (0 : Int) from hM1237 _ _ ho116.1 (own_z ho116.1) (by rw [ho116.2]; rfl)))
                have q1348 : F1288 (cl) (3 : Int) = nm := (((show F1288 (cl) (3 : Int) = F1233 (cl) (3 : Int) from hM1292 _ _ ho1265.1 (own_z ho1265.1) (by rw [ho1265.2]; rfl)).trans (show F1233 (cl) (3 : Int) = Fx (cl) (3 : Int) from hM1237 _ _ ho116.1 (own_z ho116.1) (by rw [ho116.2]; rfl))).trans iv_9)
                have q1349 : F1288 (la) (103 : Int) = Fx (la) (103 : Int) := ((show F1288 (la) (103 : Int) = F1233 (la) (103 : Int) from hM1292 _ _ ho1266.1 (own_z ho1266.1) (by rw [ho1266.2]; rfl)).trans (show F1233 (la) (103 : Int) = Fx (la) (103 : Int) from hM1237 _ _ ho775.1 (own_z ho775.1) (by rw [ho775.2]; rfl)))
                have q1350 : F1288 (la) (100 : Int) = Fx (la) (100 : Int) := ((show F1288 (la) (100 : Int) = F1233 (la) (100 : Int) from hM1292 _ _ ho1266.1 (own_z ho1266.1) (by rw [ho1266.2]; rfl)).trans (show F1233 (la) (100 : Int) = Fx (la) (100 : Int) from hM1237 _ _ ho775.1 (own_z ho775.1) (by rw [ho775.2]; rfl)))
                have q1351 : F1288 (la) (101 : Int) = Fx (la) (101 : Int) := ((show F1288 (la) (101 : Int) = F1233 (la) (101 : Int) from hM1292 _ _ ho1266.1 (own_z ho1266.1) (by rw [ho1266.2]; rfl)).trans (show F1233 (la) (101 : Int) = Fx (la) (101 : Int) from hM1237 _ _ ho775.1 (own_z ho775.1) (by rw [ho775.2]; rfl)))
                exact k_LParser_readArguments_at_184 (X := X) (d := d) (R := R) (m := m) (tg := tg) (ln := ln) (F := F) (me := me) (cl := cl) (hd := hd) (hC := hC) (sc := sc) (pg := pg) (o_sc := o_sc) (t_sc := t_sc) (e_sc := e_sc) (o_pg := o_pg) (t_pg := t_pg) (e_pg := e_pg) (o_me := o_me) (t_me := t_me) (o_cl := o_cl) (t_cl := t_cl) (nm := nm) (o_nm := o_nm) (t_nm := t_nm) (p_0 := p_0) (p_1 := p_1) (p_2 := p_2) (p_3 := p_3) (p_4 := p_4) (p_5 := p_5) (p_6 := p_6) (p_7 := p_7) (p_8 := p_8) (p_9 := p_9) (p_10 := p_10) (p_11 := p_11) (c_NP := c_NP) (mm0 := mm0) (ih := ih) L1338 m1287 tg1287 ln1287 F1288 (la) (pa) (r1289) (by omega) g1339 g1340 g1341 g1342 g1344 hX1332 hC1291 hM1319 (Or.inr ⟨ho1327.1, ho1327.2⟩) (Or.inr ⟨ho1328.1, ho1328.2⟩) (Or.inr ⟨b1293.1, b1293.2⟩) (by omega) (by omega) (by omega) (by omega) (by omega) (by omega) (by omega) (by omega) (by omega) (by omega) (by omega) (by omega) (Or.inr ⟨pq.1, pq.2⟩) (iv_13.imp_right (fun w => by rw [show F1288 (la) (101 : Int) = Fx (la) (101 : Int) from ((show F1288 (la) (101 : Int) = F1233 (la) (101 : Int) from hM1292 _ _ ho1266.1 (own_z ho1266.1) (by rw [ho1266.2]; rfl)).trans (show F1233 (la) (101 : Int) = Fx (la) (101 : Int) from hM1237 _ _ ho775.1 (own_z ho775.1) (by rw [ho775.2]; rfl)))]; exact w)) (by omega) (by omega) (by omega) (by omega) c1306 c1337 (WK_m w1333 (by omega)) (WK_m p1302 (by omega))
            · have _q := h1103
              refine jx_ld (pc_q := 122) (l_q := L1071) (st_q := [rv (me)]) rfl (jl_rvn g1072) ?_
              refine jx_ld (pc_q := 123) (l_q := L1071) (st_q := [rv (pa), rv (me)]) rfl (jl_rvn g1075) ?_
              refine cx_gi (pc_q := 126) (c := 6) (q := 3) (v := F (pa) (3 : Int)) rfl rfl (by decide) (by decide) (Or.inl rfl) rfl ho122.1 ho122.2 (show Fx (pa) (3 : Int) = F (pa) (3 : Int) from hMx _ _ pq.1 (fun w => by have q1 := ho122.2; rw [w, ho116.2] at q1; exact absurd q1 (by decide)) (by rw [pq.2]; rfl)) ?_
              have b1352 : (-2147483648 : Int) ≤ F (pa) (3 : Int) ∧ F (pa) (3 : Int) ≤ 2147483647 := by have z := HC_i (c := 6) (q := 3) hCx ho122.1 ho122.2 (by decide) rfl; rw [show Fx (pa) ((3 : Nat) : Int) = F (pa) (3 : Int) from (show Fx (pa) (3 : Int) = F (pa) (3 : Int) from hMx _ _ pq.1 (fun w => by have q1 := ho122.2; rw [w, ho116.2] at q1; exact absurd q1 (by decide)) (by rw [pq.2]; rfl))] at z; exact z
              have b1353 : (0 : Int) ≤ Fx (me) (3 : Int) ∧ Fx (me) (3 : Int) ≤ 8 := by have z := HC_i (c := 8) (q := 3) hCx ho115.1 ho115.2 (by decide) rfl; exact z
              have q1354 := tz_b (Fx (sc) (15 : Int))
              have q1355 : Fx (sc) (7 : Int) = F (sc) (7 : Int) := (show Fx (sc) (7 : Int) = F (sc) (7 : Int) from hMx _ _ o_sc (fun w => by have q1 := ho117.2; rw [w, ho116.2] at q1; exact absurd q1 (by decide)) (by rw [t_sc]; rfl))
              have q1356 := lz_b (Fx (sc) (14 : Int))
              refine cx_vi (c := 8) (a := me) (st := []) (as := [.int (i32 (F (pa) (3 : Int)))]) rfl rfl rfl ho115.1 ho115.2 (by decide) rfl ⟨rfl, rfl, (Nat.le_of_ble_eq_true rfl)⟩ rfl (k_LParser_readArray (dd := d) (R := R) (m := mx) (tg := tgx) (ln := lnx) (F := Fx) (me := me) (sz := F (pa) (3 : Int)) (hd := by omega) (hC := hCx) (o_me := ho115.1) (t_me := ho115.2) (h_sz := by omega) (sc := sc) (pg := pg) (o_sc := ho117.1) (t_sc := ho117.2) (e_sc := ((show Fx (me) (1 : Int) = F (me) (1 : Int) from hMx _ _ o_me (fun w => by have q1 := ho115.2; rw [w, ho116.2] at q1; exact absurd q1 (by decide)) (by rw [t_me]; rfl)).trans e_sc)) (o_pg := ho118.1) (t_pg := ho118.2) (e_pg := ((show Fx (me) (0 : Int) = F (me) (0 : Int) from hMx _ _ o_me (fun w => by have q1 := ho115.2; rw [w, ho116.2] at q1; exact absurd q1 (by decide)) (by rw [t_me]; rfl)).trans e_pg)) (p_0 := by omega) (p_1 := by omega) (p_2 := by omega) (p_3 := by omega) (c_NP := cx_NP)) (fun o V_q hq => ?_)
              obtain ⟨m1357, tg1357, ln1357, F1358, r1359, rfl, rfl, hx1360, hC1361, hM1362, b1363, p1364, p1365, p1366, p1367, p1368, p1369, p1370, p1371, p1372, p1373, p1374, p1375, c1376, c1377, -⟩ | ⟨m1378, tg1378, ln1378, F1378, x1378, rfl, rfl, hx1378, hC1378, hM1378, ho1378, ht1378, p1379, p1380, p1381, p1382, c1383, c1384, -⟩ := hq
              rotate_left
              ·
                have c1385 : NM m m1378 tg1378 := NM_t cx_NM hx1378 c1384
                have lm1386 := hx1378.1
                refine Or.inr (Or.inr (Or.inr ⟨_, _, rfl, cx_exc (c := 15) ho1378 ht1378 (by decide), rfl, ?_⟩))
                have q1387 : Fx (sc) (7 : Int) = F (sc) (7 : Int) := (show Fx (sc) (7 : Int) = F (sc) (7 : Int) from hMx _ _ o_sc (fun w => by have q1 := ho117.2; rw [w, ho116.2] at q1; exact absurd q1 (by decide)) (by rw [t_sc]; rfl))
                exact Or.inr ⟨m1378, tg1378, ln1378, F1378, x1378, rfl, rfl, Ex_t hXx hx1378, hC1378, Fq_t (ln := ln) (ln1 := lnx) hMx hXx hM1378 (by decide) (Or.inr (Or.inl rfl)), (And.intro ho1378 ht1378).1, (And.intro ho1378 ht1378).2, by omega, by omega, by omega, by omega, c1383, c1385, trivial⟩
              have hM1388 : Fq cl [(9, 3), (10, 0), (10, 1), (10, 2), (10, 9), (11, 8), (11, 12), (11, 13), (11, 14), (11, 15), (11, 16), (11, 17), (11, 18)] m tg F F1358 := Fq_t (ln := ln) (ln1 := lnx) hMx hXx hM1362 (by decide) (Or.inr (Or.inl rfl))
              have lm1389 := hx1360.1
              have lt1390 : cl < 64 + (mx : Int) := ho116.1.2.1
              have lt1391 : la < 64 + (mx : Int) := ho775.1.2.1
              have lt1392 : pa < 64 + (mx : Int) := ho122.1.2.1
              have lt1393 : nm < 64 + (mx : Int) := ho119.1.2.1
              have ho1394 : own m1357 (me) ∧ tg1357 (me) = 9 := Ex_o hx1360 ⟨ho115.1, ho115.2⟩
              have ho1395 : own m1357 (cl) ∧ tg1357 (cl) = 8 := Ex_o hx1360 ⟨ho116.1, ho116.2⟩
              have ho1396 : own m1357 (la) ∧ tg1357 (la) = 8 := Ex_o hx1360 ⟨ho775.1, ho775.2⟩
              have ho1397 : own m1357 (pa) ∧ tg1357 (pa) = 7 := Ex_o hx1360 ⟨ho122.1, ho122.2⟩
              have ho1398 : own m1357 (sc) ∧ tg1357 (sc) = 11 := Ex_o hx1360 ⟨ho117.1, ho117.2⟩
              have ho1399 : own m1357 (pg) ∧ tg1357 (pg) = 10 := Ex_o hx1360 ⟨ho118.1, ho118.2⟩
              have ho1400 : own m1357 (nm) ∧ tg1357 (nm) = 7 := Ex_o hx1360 ⟨ho119.1, ho119.2⟩
              have hX1401 := Ex_t hXx hx1360
              have w1402 : WK F1358 cl (21) := WK_q wx_cl hCx ho116.1 ho116.2 hM1362 rfl
              have q1403 := p1372.1
              have q1404 := p1372.2.1
              have q1405 := p1372.2.2.1
              have c1406 : NM m m1357 tg1357 := NM_t cx_NM hx1360 c1377
              refine Or.inr (Or.inl ⟨_, rfl, ?_⟩)
              refine jx_ld (pc_q := 131) (l_q := jSto1 L1071 5 (rv (r1359))) (st_q := []) rfl (js_rv (by decide)) ?_
              obtain ⟨L1407, eL1407⟩ : ∃ q : jL, q = jSto1 L1071 5 (rv (r1359)) := ⟨_, rfl⟩
              rw [← eL1407]
              have g1408 : jGet L1407 0 = some (rv (me)) := eL1407 ▸ jg_nr (by decide) g1072
              have g1409 : jGet L1407 1 = some (rv (cl)) := eL1407 ▸ jg_nr (by decide) g1073
              have g1410 : jGet L1407 2 = some (rv (la)) := eL1407 ▸ jg_nr (by decide) g1074
              have g1411 : jGet L1407 3 = some (rv (pa)) := eL1407 ▸ jg_nr (by decide) g1075
              have g1412 : jGet L1407 4 = some (.int (i32 (1))) := eL1407 ▸ jg_ne (by decide) g1076 rfl
              have g1413 : jGet L1407 5 = some (rv (r1359)) := eL1407 ▸ jg_eq
              clear eL1407
              refine jx_go (tg := 184) rfl rfl ?_
              have q1414 := tz_b (F1358 (sc) (15 : Int))
              have q1415 := lz_b (F1358 (sc) (14 : Int))
              have q1416 : F1358 (me) (3 : Int) = Fx (me) (3 : Int) := (show F1358 (me) (3 : Int) = Fx (me) (3 : Int) from hM1362 _ _ ho115.1 (own_z ho115.1) (by rw [ho115.2]; rfl))
              have q1417 : F1358 (cl) (0 : Int) = Fx (cl) (0 : Int) := (show F1358 (cl) (0 : Int) = Fx (cl) (0 : Int) from hM1362 _ _ ho116.1 (own_z ho116.1) (by rw [ho116.2]; rfl))
              have q1418 : F1358 (cl) (3 : Int) = nm := ((show F1358 (cl) (3 : Int) = Fx (cl) (3 : Int) from hM1362 _ _ ho116.1 (own_z ho116.1) (by rw [ho116.2]; rfl)).trans iv_9)
              have q1419 : F1358 (la) (103 : Int) = Fx (la) (103 : Int) := (show F1358 (la) (103 : Int) = Fx (la) (103 : Int) from hM1362 _ _ ho775.1 (own_z ho775.1) (by rw [ho775.2]; rfl))
              have q1420 : F1358 (la) (100 : Int) = Fx (la) (100 : Int) := (show F1358 (la) (100 : Int) = Fx (la) (100 : Int) from hM1362 _ _ ho775.1 (own_z ho775.1) (by rw [ho775.2]; rfl))
              have q1421 : F1358 (la) (101 : Int) = Fx (la) (101 : Int) := (show F1358 (la) (101 : Int) = Fx (la) (101 : Int) from hM1362 _ _ ho775.1 (own_z ho775.1) (by rw [ho775.2]; rfl))
              exact k_LParser_readArguments_at_184 (X := X) (d := d) (R := R) (m := m) (tg := tg) (ln := ln) (F := F) (me := me) (cl := cl) (hd := hd) (hC := hC) (sc := sc) (pg := pg) (o_sc := o_sc) (t_sc := t_sc) (e_sc := e_sc) (o_pg := o_pg) (t_pg := t_pg) (e_pg := e_pg) (o_me := o_me) (t_me := t_me) (o_cl := o_cl) (t_cl := t_cl) (nm := nm) (o_nm := o_nm) (t_nm := t_nm) (p_0 := p_0) (p_1 := p_1) (p_2 := p_2) (p_3 := p_3) (p_4 := p_4) (p_5 := p_5) (p_6 := p_6) (p_7 := p_7) (p_8 := p_8) (p_9 := p_9) (p_10 := p_10) (p_11 := p_11) (c_NP := c_NP) (mm0 := mm0) (ih := ih) L1407 m1357 tg1357 ln1357 F1358 (la) (pa) (r1359) (by omega) g1408 g1409 g1410 g1411 g1413 hX1401 hC1361 hM1388 (Or.inr ⟨ho1396.1, ho1396.2⟩) (Or.inr ⟨ho1397.1, ho1397.2⟩) (Or.inr ⟨b1363.1, b1363.2⟩) (by omega) (by omega) (by omega) (by omega) (by omega) (by omega) (by omega) (by omega) (by omega) (by omega) (by omega) (by omega) (Or.inr ⟨pq.1, pq.2⟩) (iv_13.imp_right (fun w => by rw [show F1358 (la) (101 : Int) = Fx (la) (101 : Int) from (show F1358 (la) (101 : Int) = Fx (la) (101 : Int) from hM1362 _ _ ho775.1 (own_z ho775.1) (by rw [ho775.2]; rfl))]; exact w)) (by omega) (by omega) (by omega) (by omega) c1376 c1406 (WK_m w1402 (by omega)) (WK_m p1372 (by omega))
          · have _q := h1101
            refine jx_ld (pc_q := 101) (l_q := L1071) (st_q := [rv (me)]) rfl (jl_rvn g1072) ?_
            refine jx_ar (pc_q := 102) (st_q := [.int (i32 (4)), rv (me)]) rfl rfl rfl rfl ?_
            refine jx_ld (pc_q := 103) (l_q := L1071) (st_q := [rv (me), .int (i32 (4)), rv (me)]) rfl (jl_rvn g1072) ?_
            refine cx_gr (pc_q := 106) (c := 8) (q := 1) (v := sc) rfl rfl (by decide) (by decide) rfl rfl ho115.1 ho115.2 ((show Fx (me) (1 : Int) = F (me) (1 : Int) from hMx _ _ o_me (fun w => by have q1 := ho115.2; rw [w, ho116.2] at q1; exact absurd q1 (by decide)) (by rw [t_me]; rfl)).trans e_sc) ?_
            refine cx_gi (pc_q := 109) (c := 10) (q := 16) (v := Fx (sc) (16 : Int)) rfl rfl (by decide) (by decide) (Or.inl rfl) rfl ho117.1 ho117.2 rfl ?_
            have b1422 : (-2147483648 : Int) ≤ Fx (sc) (16 : Int) ∧ Fx (sc) (16 : Int) ≤ 2147483647 := by have z := HC_i (c := 10) (q := 16) hCx ho117.1 ho117.2 (by decide) rfl; rw [show Fx (sc) ((16 : Nat) : Int) = Fx (sc) (16 : Int) from rfl] at z; exact z
            have q1423 : Fx (sc) (7 : Int) = F (sc) (7 : Int) := (show Fx (sc) (7 : Int) = F (sc) (7 : Int) from hMx _ _ o_sc (fun w => by have q1 := ho117.2; rw [w, ho116.2] at q1; exact absurd q1 (by decide)) (by rw [t_sc]; rfl))
            refine cx_vi (c := 8) (a := me) (st := []) (as := [.int (i32 (4)), .int (i32 (Fx (sc) (16 : Int)))]) rfl rfl rfl ho115.1 ho115.2 (by decide) rfl ⟨rfl, rfl, (Nat.le_of_ble_eq_true rfl)⟩ rfl (k_LParser_fail (dd := d) (R := R) (m := mx) (tg := tgx) (ln := lnx) (F := Fx) (me := me) (kd := 4) (pl := Fx (sc) (16 : Int)) (hd := by omega) (hC := hCx) (o_me := ho115.1) (t_me := ho115.2) (h_kd := by omega) (h_pl := by omega) (sc := sc) (pg := pg) (o_sc := ho117.1) (t_sc := ho117.2) (e_sc := ((show Fx (me) (1 : Int) = F (me) (1 : Int) from hMx _ _ o_me (fun w => by have q1 := ho115.2; rw [w, ho116.2] at q1; exact absurd q1 (by decide)) (by rw [t_me]; rfl)).trans e_sc)) (o_pg := ho118.1) (t_pg := ho118.2) (e_pg := ((show Fx (me) (0 : Int) = F (me) (0 : Int) from hMx _ _ o_me (fun w => by have q1 := ho115.2; rw [w, ho116.2] at q1; exact absurd q1 (by decide)) (by rw [t_me]; rfl)).trans e_pg)) (p_0 := by omega) (p_1 := by omega) (c_NP := cx_NP)) (fun o V_q hq => ?_)
            obtain ⟨m1424, tg1424, ln1424, F1425, rfl, rfl, hx1426, hC1427, hM1428, p1429, c1430, c1431, -⟩ | ⟨m1432, tg1432, ln1432, F1432, x1432, rfl, rfl, hx1432, hC1432, hM1432, ho1432, ht1432, p1433, p1434, p1435, p1436, c1437, c1438, -⟩ := hq
            rotate_left
            ·
              have c1439 : NM m m1432 tg1432 := NM_t cx_NM hx1432 c1438
              have lm1440 := hx1432.1
              refine Or.inr (Or.inr (Or.inr ⟨_, _, rfl, cx_exc (c := 15) ho1432 ht1432 (by decide), rfl, ?_⟩))
              have q1441 : Fx (sc) (7 : Int) = F (sc) (7 : Int) := (show Fx (sc) (7 : Int) = F (sc) (7 : Int) from hMx _ _ o_sc (fun w => by have q1 := ho117.2; rw [w, ho116.2] at q1; exact absurd q1 (by decide)) (by rw [t_sc]; rfl))
              exact Or.inr ⟨m1432, tg1432, ln1432, F1432, x1432, rfl, rfl, Ex_t hXx hx1432, hC1432, Fq_t (ln := ln) (ln1 := lnx) hMx hXx hM1432 (by decide) (Or.inr (Or.inl rfl)), (And.intro ho1432 ht1432).1, (And.intro ho1432 ht1432).2, by omega, by omega, by omega, by omega, c1437, c1439, trivial⟩
            exact p1429.elim
set_option maxRecDepth 20000 in
set_option maxHeartbeats 4000000 in
theorem k_LParser_readArguments_at_19 {X : jX} {d : Nat} {R : Nat → jC} {m : Nat} {tg ln : Int → Int} {F : Int → Int → Int} {me cl : Int} (hd : 62 ≤ d + 1) (hC : HC 0 m tg ln F) {sc pg : Int} (o_sc : own m sc) (t_sc : tg sc = 11) (e_sc : F me (1 : Int) = sc) (o_pg : own m pg) (t_pg : tg pg = 10) (e_pg : F me (0 : Int) = pg) (o_me : own m me) (t_me : tg me = 9) (o_cl : own m cl) (t_cl : tg cl = 8) {nm : Int} (o_nm : own m nm) (t_nm : tg nm = 7) (p_0 : F sc (8 : Int) + 2 * tz (F sc (15 : Int)) ≤ F sc (7 : Int) + 1) (p_1 : F sc (8 : Int) + 2 * lz (F sc (14 : Int)) ≤ F sc (7 : Int) + 1) (p_2 : F sc (8 : Int) ≤ F sc (7 : Int)) (p_3 : tz (F sc (15 : Int)) = 1) (p_4 : F cl (0 : Int) = 5) (p_5 : F cl (3 : Int) = nm) (p_6 : F cl (5 : Int) = 0) (p_7 : F cl (6 : Int) = 0) (p_8 : F cl (7 : Int) = 0) (p_9 : F cl (8 : Int) = 0) (p_10 : F cl (101 : Int) = 0) (p_11 : F cl (103 : Int) = 0) (c_NP : NP m tg F) : ∀ (mm : Nat) (L : jL) (mx : Nat) (tgx lnx : Int → Int) (Fx : Int → Int → Int) (la pa : Int), (mz m pa).toNat = mm → jGet L 0 = some (rv (me)) → jGet L 1 = some (rv (cl)) → jGet L 2 = some (rv la) → jGet L 3 = some (rv pa) → Ex m tg ln mx tgx lnx → HC 0 mx tgx lnx Fx → Fq cl [(9, 3), (10, 0), (10, 1), (10, 2), (10, 9), (11, 8), (11, 12), (11, 13), (11, 14), (11, 15), (11, 16), (11, 17), (11, 18)] m tg F Fx → (la = 0 ∨ (own mx la ∧ tgx la = 8)) → (pa = 0 ∨ (own mx pa ∧ tgx pa = 7)) → (Fx sc (8 : Int) + 2 * tz (Fx sc (15 : Int)) ≤ F sc (7 : Int) + 1) → (Fx sc (8 : Int) + 2 * lz (Fx sc (14 : Int)) ≤ F sc (7 : Int) + 1) → (Fx sc (8 : Int) ≤ F sc (7 : Int)) → (Fx pg (9 : Int) ≤ F pg (9 : Int) + ((mx : Int) - (m : Int))) → (F sc (8 : Int) ≤ Fx sc (8 : Int)) → (szD mx tgx lnx = szD m tg ln + 25 * ((mx : Int) - (m : Int))) → ((mx : Int) ≤ (m : Int) + (Fx sc (8 : Int) - F sc (8 : Int)) + (-1)) → (Fx me (3 : Int) = F me (3 : Int) + 1) → (Fx cl (0 : Int) = 5) → (Fx cl (3 : Int) = nm) → (la ≠ 0 ∨ pa = F nm (13 : Int)) → (la = 0 ∨ (64 + (m : Int) ≤ la ∧ Fx la (103 : Int) = 1 ∧ Fx la (100 : Int) = 20 ∧ Fx la (101 : Int) ≠ 0)) → (pa = 0 ∨ (own m pa ∧ tg pa = 7)) → (la = 0 ∨ (own m (Fx la (101 : Int)) ∧ tg (Fx la (101 : Int)) = 7 ∧ F (Fx la (101 : Int)) (14 : Int) = pa)) → (NP mx tgx Fx) → (NM m mx tgx) → (WK Fx cl (21)) → wj X d jm191 (19, L, [], cV R mx tgx lnx Fx) (fun o V_q => (∃ (m_q : Nat) (tg_q ln_q : Int → Int) (F_q : Int → Int → Int), V_q = cV R m_q tg_q ln_q F_q ∧ o = .inl none ∧ Ex m tg ln m_q tg_q ln_q ∧ HC 0 m_q tg_q ln_q F_q ∧ Fq cl [(9, 3), (10, 0), (10, 1), (10, 2), (10, 9), (11, 8), (11, 12), (11, 13), (11, 14), (11, 15), (11, 16), (11, 17), (11, 18)] m tg F F_q ∧ (F_q sc (8 : Int) + 2 * tz (F_q sc (15 : Int)) ≤ F sc (7 : Int) + 1) ∧ (F_q sc (8 : Int) + 2 * lz (F_q sc (14 : Int)) ≤ F sc (7 : Int) + 1) ∧ (F_q sc (8 : Int) ≤ F sc (7 : Int)) ∧ (F sc (8 : Int) ≤ F_q sc (8 : Int)) ∧ (szD m_q tg_q ln_q = szD m tg ln + 25 * ((m_q : Int) - (m : Int))) ∧ ((m_q : Int) ≤ (m : Int) + (F_q sc (8 : Int) - F sc (8 : Int)) + (-1)) ∧ (F_q pg (9 : Int) ≤ F pg (9 : Int) + ((m_q : Int) - (m : Int))) ∧ (WK F_q cl (21)) ∧ (F_q me (3 : Int) = F me (3 : Int)) ∧ (NP m_q tg_q F_q) ∧ (NM m m_q tg_q) ∧ True) ∨ (∃ (m_q : Nat) (tg_q ln_q : Int → Int) (F_q : Int → Int → Int) (x : Nat), V_q = cV R m_q tg_q ln_q F_q ∧ o = .inr x ∧ Ex m tg ln m_q tg_q ln_q ∧ HC 0 m_q tg_q ln_q F_q ∧ Fq cl [(9, 3), (10, 0), (10, 1), (10, 2), (10, 9), (11, 8), (11, 12), (11, 13), (11, 14), (11, 15), (11, 16), (11, 17), (11, 18)] m tg F F_q ∧ (own m_q (x : Int)) ∧ (tg_q (x : Int) = 16) ∧ (F_q pg (0 : Int) ≠ 0) ∧ (szD m_q tg_q ln_q = szD m tg ln + 25 * ((m_q : Int) - (m : Int))) ∧ ((m_q : Int) ≤ (m : Int) + (F_q sc (8 : Int) - F sc (8 : Int)) + (1)) ∧ (F_q sc (8 : Int) ≤ F sc (7 : Int) + 1) ∧ (NP m_q tg_q F_q) ∧ (NM m m_q tg_q) ∧ True)) := by
  intro mm
  induction mm using Nat.strongRecOn with
  | ind mm ih =>
    intro L mx tgx lnx Fx la pa hmm gL_0 gL_1 gL_2 gL_3 hXx hCx hMx yx_la yx_pa iv_0 iv_1 iv_2 iv_3 iv_4 iv_5 iv_6 iv_7 iv_8 iv_9 iv_10 iv_11 iv_12 iv_13 cx_NP cx_NM wx_cl
    have hX0 : Ex m tg ln m tg ln := Ex_r
    have lm1442 := hXx.1
    have lt1443 : cl < 64 + (m : Int) := o_cl.2.1
    have lt1444 : nm < 64 + (m : Int) := o_nm.2.1
    have ho1445 : own mx (me) ∧ tgx (me) = 9 := Ex_o hXx ⟨o_me, t_me⟩
    have ho1446 : own mx (cl) ∧ tgx (cl) = 8 := Ex_o hXx ⟨o_cl, t_cl⟩
    have ho1447 : own mx (sc) ∧ tgx (sc) = 11 := Ex_o hXx ⟨o_sc, t_sc⟩
    have ho1448 : own mx (pg) ∧ tgx (pg) = 10 := Ex_o hXx ⟨o_pg, t_pg⟩
    have ho1449 : own mx (nm) ∧ tgx (nm) = 7 := Ex_o hXx ⟨o_nm, t_nm⟩
    have hX1450 := Ex_t hX0 hXx
    have tb0 := tz_b (F sc (15 : Int))
    have lb0 := lz_b (F sc (14 : Int))
    have tb1 := tz_b (Fx sc (15 : Int))
    have lb1 := lz_b (Fx sc (14 : Int))
    have ob0 : (0 : Int) ≤ F me (3 : Int) ∧ F me (3 : Int) ≤ 8 := HC_i (c := 8) (q := 3) hC o_me t_me (by decide) rfl
    have tp0 : F me (2 : Int) < 64 + (m : Int) := by
      have z : F me (2 : Int) = 0 ∨ (own m (F me (2 : Int)) ∧ tg (F me (2 : Int)) = 7) := HC_r (c := 8) (q := 2) hC o_me t_me (by decide) rfl
      rcases z with w | w
      · omega
      · exact w.1.2.1
    have nz_cl := own_z o_cl
    have q1451 := wx_cl.1
    have q1452 := wx_cl.2.1
    have q1453 := wx_cl.2.2.1
    refine jx_ld (pc_q := 20) (l_q := L) (st_q := [rv (pa)]) rfl (jl_rvn gL_3) ?_
    refine cx_nul (pc_q := 23) (tg_q := 200) rfl rfl rfl (fun h1454 => ?_) (fun h1454 => ?_)
    · have _q := h1454
      refine jx_ld (pc_q := 201) (l_q := L) (st_q := [rv (la)]) rfl (jl_rvn gL_2) ?_
      refine cx_nul (pc_q := 204) (tg_q := 228) rfl rfl rfl (fun h1455 => ?_) (fun h1455 => ?_)
      · have _q := h1455
        refine jx_ld (pc_q := 229) (l_q := L) (st_q := [rv (me)]) rfl (jl_rvn gL_0) ?_
        refine jx_ar (pc_q := 231) (st_q := [.int (i32 (55)), rv (me)]) rfl rfl rfl rfl ?_
        have b1456 : (0 : Int) ≤ Fx (me) (3 : Int) ∧ Fx (me) (3 : Int) ≤ 8 := by have z := HC_i (c := 8) (q := 3) hCx ho1445.1 ho1445.2 (by decide) rfl; exact z
        have q1457 := tz_b (Fx (sc) (15 : Int))
        have q1458 : Fx (sc) (7 : Int) = F (sc) (7 : Int) := (show Fx (sc) (7 : Int) = F (sc) (7 : Int) from hMx _ _ o_sc (fun w => by have q1 := ho1447.2; rw [w, ho1446.2] at q1; exact absurd q1 (by decide)) (by rw [t_sc]; rfl))
        have q1459 := lz_b (Fx (sc) (14 : Int))
        refine cx_vi (c := 8) (a := me) (st := []) (as := [.int (i32 (55))]) rfl rfl rfl ho1445.1 ho1445.2 (by decide) rfl ⟨rfl, rfl, (Nat.le_of_ble_eq_true rfl)⟩ rfl (k_LParser_closeBracket (dd := d) (R := R) (m := mx) (tg := tgx) (ln := lnx) (F := Fx) (me := me) (tk := 55) (hd := by omega) (hC := hCx) (o_me := ho1445.1) (t_me := ho1445.2) (h_tk := by omega) (sc := sc) (pg := pg) (o_sc := ho1447.1) (t_sc := ho1447.2) (e_sc := ((show Fx (me) (1 : Int) = F (me) (1 : Int) from hMx _ _ o_me (fun w => by have q1 := ho1445.2; rw [w, ho1446.2] at q1; exact absurd q1 (by decide)) (by rw [t_me]; rfl)).trans e_sc)) (o_pg := ho1448.1) (t_pg := ho1448.2) (e_pg := ((show Fx (me) (0 : Int) = F (me) (0 : Int) from hMx _ _ o_me (fun w => by have q1 := ho1445.2; rw [w, ho1446.2] at q1; exact absurd q1 (by decide)) (by rw [t_me]; rfl)).trans e_pg)) (p_0 := by omega) (p_1 := by omega) (p_2 := by omega) (p_3 := by omega) (p_4 := by omega) (c_NP := cx_NP)) (fun o V_q hq => ?_)
        obtain ⟨m1460, tg1460, ln1460, F1461, rfl, rfl, hx1462, hC1463, hM1464, p1465, p1466, p1467, p1468, p1469, p1470, p1471, p1472, c1473, c1474, -⟩ | ⟨m1475, tg1475, ln1475, F1475, x1475, rfl, rfl, hx1475, hC1475, hM1475, ho1475, ht1475, p1476, p1477, p1478, p1479, c1480, c1481, -⟩ := hq
        rotate_left
        ·
          have c1482 : NM m m1475 tg1475 := NM_t cx_NM hx1475 c1481
          have lm1483 := hx1475.1
          refine Or.inr (Or.inr (Or.inr ⟨_, _, rfl, cx_exc (c := 15) ho1475 ht1475 (by decide), rfl, ?_⟩))
          have q1484 : Fx (sc) (7 : Int) = F (sc) (7 : Int) := (show Fx (sc) (7 : Int) = F (sc) (7 : Int) from hMx _ _ o_sc (fun w => by have q1 := ho1447.2; rw [w, ho1446.2] at q1; exact absurd q1 (by decide)) (by rw [t_sc]; rfl))
          exact Or.inr ⟨m1475, tg1475, ln1475, F1475, x1475, rfl, rfl, Ex_t hXx hx1475, hC1475, Fq_t (ln := ln) (ln1 := lnx) hMx hXx hM1475 (by decide) (Or.inr (Or.inl rfl)), (And.intro ho1475 ht1475).1, (And.intro ho1475 ht1475).2, by omega, by omega, by omega, by omega, c1480, c1482, trivial⟩
        have hM1485 : Fq cl [(9, 3), (10, 0), (10, 1), (10, 2), (10, 9), (11, 8), (11, 12), (11, 13), (11, 14), (11, 15), (11, 16), (11, 17), (11, 18)] m tg F F1461 := Fq_t (ln := ln) (ln1 := lnx) hMx hXx hM1464 (by decide) (Or.inr (Or.inl rfl))
        have lm1486 := hx1462.1
        have lt1487 : cl < 64 + (mx : Int) := ho1446.1.2.1
        have lt1488 : la < 64 + (mx : Int) := by rcases yx_la with w | w; (· omega); exact w.1.2.1
        have lt1489 : pa < 64 + (mx : Int) := by rcases yx_pa with w | w; (· omega); exact w.1.2.1
        have lt1490 : nm < 64 + (mx : Int) := ho1449.1.2.1
        have ho1491 : own m1460 (me) ∧ tg1460 (me) = 9 := Ex_o hx1462 ⟨ho1445.1, ho1445.2⟩
        have ho1492 : own m1460 (cl) ∧ tg1460 (cl) = 8 := Ex_o hx1462 ⟨ho1446.1, ho1446.2⟩
        have y1493 : la = 0 ∨ (own m1460 (la) ∧ tg1460 (la) = 8) := Ex_z hx1462 yx_la
        have y1494 : pa = 0 ∨ (own m1460 (pa) ∧ tg1460 (pa) = 7) := Ex_z hx1462 yx_pa
        have ho1495 : own m1460 (sc) ∧ tg1460 (sc) = 11 := Ex_o hx1462 ⟨ho1447.1, ho1447.2⟩
        have ho1496 : own m1460 (pg) ∧ tg1460 (pg) = 10 := Ex_o hx1462 ⟨ho1448.1, ho1448.2⟩
        have ho1497 : own m1460 (nm) ∧ tg1460 (nm) = 7 := Ex_o hx1462 ⟨ho1449.1, ho1449.2⟩
        have hX1498 := Ex_t hXx hx1462
        have w1499 : WK F1461 cl (21) := WK_q wx_cl hCx ho1446.1 ho1446.2 hM1464 rfl
        have c1500 : NM m m1460 tg1460 := NM_t cx_NM hx1462 c1474
        refine Or.inl ⟨rfl, ?_⟩
        refine jx_rt (v := none) rfl rfl rfl rfl rfl rfl ?_
        have q1501 : F1461 (sc) (7 : Int) = F (sc) (7 : Int) := ((show F1461 (sc) (7 : Int) = Fx (sc) (7 : Int) from hM1464 _ _ ho1447.1 (own_z ho1447.1) (by rw [ho1447.2]; rfl)).trans (show Fx (sc) (7 : Int) = F (sc) (7 : Int) from hMx _ _ o_sc (fun w => by have q1 := ho1495.2; rw [w, ho1492.2] at q1; exact absurd q1 (by decide)) (by rw [t_sc]; rfl)))
        have q1502 : F1461 (pg) (9 : Int) = Fx (pg) (9 : Int) := (show F1461 (pg) (9 : Int) = Fx (pg) (9 : Int) from hM1464 _ _ ho1448.1 (own_z ho1448.1) (by rw [ho1448.2]; rfl))
        have q1503 := tz_b (F1461 (sc) (15 : Int))
        have q1504 := lz_b (F1461 (sc) (14 : Int))
        have q1505 : F1461 (pg) (9 : Int) = Fx (pg) (9 : Int) := q1502
        exact Or.inl ⟨m1460, tg1460, ln1460, F1461, rfl, rfl, hX1498, hC1463, hM1485, by omega, by omega, by omega, by omega, by omega, by omega, by omega, (WK_m w1499 (by omega)), by omega, c1473, c1500, trivial⟩
      · have _q := h1455
        have ho1506 : own mx (la) ∧ tgx (la) = 8 := yx_la.resolve_left h1455
        refine jx_ld (pc_q := 205) (l_q := L) (st_q := [rv (me)]) rfl (jl_rvn gL_0) ?_
        refine cx_gr (pc_q := 208) (c := 8) (q := 1) (v := sc) rfl rfl (by decide) (by decide) rfl rfl ho1445.1 ho1445.2 ((show Fx (me) (1 : Int) = F (me) (1 : Int) from hMx _ _ o_me (fun w => by have q1 := ho1445.2; rw [w, ho1446.2] at q1; exact absurd q1 (by decide)) (by rw [t_me]; rfl)).trans e_sc) ?_
        refine cx_gi (pc_q := 211) (c := 10) (q := 15) (v := Fx (sc) (15 : Int)) rfl rfl (by decide) (by decide) (Or.inl rfl) rfl ho1447.1 ho1447.2 rfl ?_
        have b1507 : (-2147483648 : Int) ≤ Fx (sc) (15 : Int) ∧ Fx (sc) (15 : Int) ≤ 2147483647 := by have z := HC_i (c := 10) (q := 15) hCx ho1447.1 ho1447.2 (by decide) rfl; rw [show Fx (sc) ((15 : Nat) : Int) = Fx (sc) (15 : Int) from rfl] at z; exact z
        refine jx_ar (pc_q := 213) (st_q := [.int (i32 (52)), .int (i32 (Fx (sc) (15 : Int)))]) rfl rfl rfl rfl ?_
        refine jx_icmp_ne (pc_q := 216) (tg := 228) rfl rfl rfl (by omega) (by omega) (by decide) (by decide) (fun h1508 => ?_) (fun h1508 => ?_)
        · have _q := h1508
          refine jx_ld (pc_q := 229) (l_q := L) (st_q := [rv (me)]) rfl (jl_rvn gL_0) ?_
          refine jx_ar (pc_q := 231) (st_q := [.int (i32 (55)), rv (me)]) rfl rfl rfl rfl ?_
          have b1509 : (0 : Int) ≤ Fx (me) (3 : Int) ∧ Fx (me) (3 : Int) ≤ 8 := by have z := HC_i (c := 8) (q := 3) hCx ho1445.1 ho1445.2 (by decide) rfl; exact z
          have q1510 := tz_b (Fx (sc) (15 : Int))
          have q1511 : Fx (sc) (7 : Int) = F (sc) (7 : Int) := (show Fx (sc) (7 : Int) = F (sc) (7 : Int) from hMx _ _ o_sc (fun w => by have q1 := ho1447.2; rw [w, ho1446.2] at q1; exact absurd q1 (by decide)) (by rw [t_sc]; rfl))
          have q1512 := lz_b (Fx (sc) (14 : Int))
          refine cx_vi (c := 8) (a := me) (st := []) (as := [.int (i32 (55))]) rfl rfl rfl ho1445.1 ho1445.2 (by decide) rfl ⟨rfl, rfl, (Nat.le_of_ble_eq_true rfl)⟩ rfl (k_LParser_closeBracket (dd := d) (R := R) (m := mx) (tg := tgx) (ln := lnx) (F := Fx) (me := me) (tk := 55) (hd := by omega) (hC := hCx) (o_me := ho1445.1) (t_me := ho1445.2) (h_tk := by omega) (sc := sc) (pg := pg) (o_sc := ho1447.1) (t_sc := ho1447.2) (e_sc := ((show Fx (me) (1 : Int) = F (me) (1 : Int) from hMx _ _ o_me (fun w => by have q1 := ho1445.2; rw [w, ho1446.2] at q1; exact absurd q1 (by decide)) (by rw [t_me]; rfl)).trans e_sc)) (o_pg := ho1448.1) (t_pg := ho1448.2) (e_pg := ((show Fx (me) (0 : Int) = F (me) (0 : Int) from hMx _ _ o_me (fun w => by have q1 := ho1445.2; rw [w, ho1446.2] at q1; exact absurd q1 (by decide)) (by rw [t_me]; rfl)).trans e_pg)) (p_0 := by omega) (p_1 := by omega) (p_2 := by omega) (p_3 := by omega) (p_4 := by omega) (c_NP := cx_NP)) (fun o V_q hq => ?_)
          obtain ⟨m1513, tg1513, ln1513, F1514, rfl, rfl, hx1515, hC1516, hM1517, p1518, p1519, p1520, p1521, p1522, p1523, p1524, p1525, c1526, c1527, -⟩ | ⟨m1528, tg1528, ln1528, F1528, x1528, rfl, rfl, hx1528, hC1528, hM1528, ho1528, ht1528, p1529, p1530, p1531, p1532, c1533, c1534, -⟩ := hq
          rotate_left
          ·
            have c1535 : NM m m1528 tg1528 := NM_t cx_NM hx1528 c1534
            have lm1536 := hx1528.1
            refine Or.inr (Or.inr (Or.inr ⟨_, _, rfl, cx_exc (c := 15) ho1528 ht1528 (by decide), rfl, ?_⟩))
            have q1537 : Fx (sc) (7 : Int) = F (sc) (7 : Int) := (show Fx (sc) (7 : Int) = F (sc) (7 : Int) from hMx _ _ o_sc (fun w => by have q1 := ho1447.2; rw [w, ho1446.2] at q1; exact absurd q1 (by decide)) (by rw [t_sc]; rfl))
            exact Or.inr ⟨m1528, tg1528, ln1528, F1528, x1528, rfl, rfl, Ex_t hXx hx1528, hC1528, Fq_t (ln := ln) (ln1 := lnx) hMx hXx hM1528 (by decide) (Or.inr (Or.inl rfl)), (And.intro ho1528 ht1528).1, (And.intro ho1528 ht1528).2, by omega, by omega, by omega, by omega, c1533, c1535, trivial⟩
          have hM1538 : Fq cl [(9, 3), (10, 0), (10, 1), (10, 2), (10, 9), (11, 8), (11, 12), (11, 13), (11, 14), (11, 15), (11, 16), (11, 17), (11, 18)] m tg F F1514 := Fq_t (ln := ln) (ln1 := lnx) hMx hXx hM1517 (by decide) (Or.inr (Or.inl rfl))
          have lm1539 := hx1515.1
          have lt1540 : cl < 64 + (mx : Int) := ho1446.1.2.1
          have lt1541 : la < 64 + (mx : Int) := ho1506.1.2.1
          have lt1542 : pa < 64 + (mx : Int) := by rcases yx_pa with w | w; (· omega); exact w.1.2.1
          have lt1543 : nm < 64 + (mx : Int) := ho1449.1.2.1
          have ho1544 : own m1513 (me) ∧ tg1513 (me) = 9 := Ex_o hx1515 ⟨ho1445.1, ho1445.2⟩
          have ho1545 : own m1513 (cl) ∧ tg1513 (cl) = 8 := Ex_o hx1515 ⟨ho1446.1, ho1446.2⟩
          have ho1546 : own m1513 (la) ∧ tg1513 (la) = 8 := Ex_o hx1515 ⟨ho1506.1, ho1506.2⟩
          have y1547 : pa = 0 ∨ (own m1513 (pa) ∧ tg1513 (pa) = 7) := Ex_z hx1515 yx_pa
          have ho1548 : own m1513 (sc) ∧ tg1513 (sc) = 11 := Ex_o hx1515 ⟨ho1447.1, ho1447.2⟩
          have ho1549 : own m1513 (pg) ∧ tg1513 (pg) = 10 := Ex_o hx1515 ⟨ho1448.1, ho1448.2⟩
          have ho1550 : own m1513 (nm) ∧ tg1513 (nm) = 7 := Ex_o hx1515 ⟨ho1449.1, ho1449.2⟩
          have hX1551 := Ex_t hXx hx1515
          have w1552 : WK F1514 cl (21) := WK_q wx_cl hCx ho1446.1 ho1446.2 hM1517 rfl
          have c1553 : NM m m1513 tg1513 := NM_t cx_NM hx1515 c1527
          refine Or.inl ⟨rfl, ?_⟩
          refine jx_rt (v := none) rfl rfl rfl rfl rfl rfl ?_
          have q1554 : F1514 (sc) (7 : Int) = F (sc) (7 : Int) := ((show F1514 (sc) (7 : Int) = Fx (sc) (7 : Int) from hM1517 _ _ ho1447.1 (own_z ho1447.1) (by rw [ho1447.2]; rfl)).trans (show Fx (sc) (7 : Int) = F (sc) (7 : Int) from hMx _ _ o_sc (fun w => by have q1 := ho1548.2; rw [w, ho1545.2] at q1; exact absurd q1 (by decide)) (by rw [t_sc]; rfl)))
          have q1555 : F1514 (pg) (9 : Int) = Fx (pg) (9 : Int) := (show F1514 (pg) (9 : Int) = Fx (pg) (9 : Int) from hM1517 _ _ ho1448.1 (own_z ho1448.1) (by rw [ho1448.2]; rfl))
          have q1556 := tz_b (F1514 (sc) (15 : Int))
          have q1557 := lz_b (F1514 (sc) (14 : Int))
          have q1558 : F1514 (pg) (9 : Int) = Fx (pg) (9 : Int) := q1555
          exact Or.inl ⟨m1513, tg1513, ln1513, F1514, rfl, rfl, hX1551, hC1516, hM1538, by omega, by omega, by omega, by omega, by omega, by omega, by omega, (WK_m w1552 (by omega)), by omega, c1526, c1553, trivial⟩
        · have _q := h1508
          have t1559 : tz (Fx (sc) (15 : Int)) = 1 := tz_p (by omega)
          refine jx_ld (pc_q := 217) (l_q := L) (st_q := [rv (me)]) rfl (jl_rvn gL_0) ?_
          refine jx_ar (pc_q := 218) (st_q := [.int (i32 (4)), rv (me)]) rfl rfl rfl rfl ?_
          refine jx_ld (pc_q := 219) (l_q := L) (st_q := [rv (me), .int (i32 (4)), rv (me)]) rfl (jl_rvn gL_0) ?_
          refine cx_gr (pc_q := 222) (c := 8) (q := 1) (v := sc) rfl rfl (by decide) (by decide) rfl rfl ho1445.1 ho1445.2 ((show Fx (me) (1 : Int) = F (me) (1 : Int) from hMx _ _ o_me (fun w => by have q1 := ho1445.2; rw [w, ho1446.2] at q1; exact absurd q1 (by decide)) (by rw [t_me]; rfl)).trans e_sc) ?_
          refine cx_gi (pc_q := 225) (c := 10) (q := 16) (v := Fx (sc) (16 : Int)) rfl rfl (by decide) (by decide) (Or.inl rfl) rfl ho1447.1 ho1447.2 rfl ?_
          have b1560 : (-2147483648 : Int) ≤ Fx (sc) (16 : Int) ∧ Fx (sc) (16 : Int) ≤ 2147483647 := by have z := HC_i (c := 10) (q := 16) hCx ho1447.1 ho1447.2 (by decide) rfl; rw [show Fx (sc) ((16 : Nat) : Int) = Fx (sc) (16 : Int) from rfl] at z; exact z
          have q1561 : Fx (sc) (7 : Int) = F (sc) (7 : Int) := (show Fx (sc) (7 : Int) = F (sc) (7 : Int) from hMx _ _ o_sc (fun w => by have q1 := ho1447.2; rw [w, ho1446.2] at q1; exact absurd q1 (by decide)) (by rw [t_sc]; rfl))
          refine cx_vi (c := 8) (a := me) (st := []) (as := [.int (i32 (4)), .int (i32 (Fx (sc) (16 : Int)))]) rfl rfl rfl ho1445.1 ho1445.2 (by decide) rfl ⟨rfl, rfl, (Nat.le_of_ble_eq_true rfl)⟩ rfl (k_LParser_fail (dd := d) (R := R) (m := mx) (tg := tgx) (ln := lnx) (F := Fx) (me := me) (kd := 4) (pl := Fx (sc) (16 : Int)) (hd := by omega) (hC := hCx) (o_me := ho1445.1) (t_me := ho1445.2) (h_kd := by omega) (h_pl := by omega) (sc := sc) (pg := pg) (o_sc := ho1447.1) (t_sc := ho1447.2) (e_sc := ((show Fx (me) (1 : Int) = F (me) (1 : Int) from hMx _ _ o_me (fun w => by have q1 := ho1445.2; rw [w, ho1446.2] at q1; exact absurd q1 (by decide)) (by rw [t_me]; rfl)).trans e_sc)) (o_pg := ho1448.1) (t_pg := ho1448.2) (e_pg := ((show Fx (me) (0 : Int) = F (me) (0 : Int) from hMx _ _ o_me (fun w => by have q1 := ho1445.2; rw [w, ho1446.2] at q1; exact absurd q1 (by decide)) (by rw [t_me]; rfl)).trans e_pg)) (p_0 := by omega) (p_1 := by omega) (c_NP := cx_NP)) (fun o V_q hq => ?_)
          obtain ⟨m1562, tg1562, ln1562, F1563, rfl, rfl, hx1564, hC1565, hM1566, p1567, c1568, c1569, -⟩ | ⟨m1570, tg1570, ln1570, F1570, x1570, rfl, rfl, hx1570, hC1570, hM1570, ho1570, ht1570, p1571, p1572, p1573, p1574, c1575, c1576, -⟩ := hq
          rotate_left
          ·
            have c1577 : NM m m1570 tg1570 := NM_t cx_NM hx1570 c1576
            have lm1578 := hx1570.1
            refine Or.inr (Or.inr (Or.inr ⟨_, _, rfl, cx_exc (c := 15) ho1570 ht1570 (by decide), rfl, ?_⟩))
            have q1579 : Fx (sc) (7 : Int) = F (sc) (7 : Int) := (show Fx (sc) (7 : Int) = F (sc) (7 : Int) from hMx _ _ o_sc (fun w => by have q1 := ho1447.2; rw [w, ho1446.2] at q1; exact absurd q1 (by decide)) (by rw [t_sc]; rfl))
            exact Or.inr ⟨m1570, tg1570, ln1570, F1570, x1570, rfl, rfl, Ex_t hXx hx1570, hC1570, Fq_t (ln := ln) (ln1 := lnx) hMx hXx hM1570 (by decide) (Or.inr (Or.inl rfl)), (And.intro ho1570 ht1570).1, (And.intro ho1570 ht1570).2, by omega, by omega, by omega, by omega, c1575, c1577, trivial⟩
          exact p1567.elim
    · have _q := h1454
      have ho1580 : own mx (pa) ∧ tgx (pa) = 7 := yx_pa.resolve_left h1454
      have pq := iv_12.resolve_left (by omega)
      have pz := mz_a hC c_NP.1 pq.1 pq.2
      refine jx_ld (pc_q := 24) (l_q := L) (st_q := [rv (la)]) rfl (jl_rvn gL_2) ?_
      refine cx_nul (pc_q := 27) (tg_q := 57) rfl rfl rfl (fun h1581 => ?_) (fun h1581 => ?_)
      · have _q := h1581
        have q1582 := tz_b (Fx (sc) (15 : Int))
        have q1583 := lz_b (Fx (sc) (14 : Int))
        have q1584 : Fx (cl) (3 : Int) = nm := iv_9
        exact k_LParser_readArguments_at_57 (X := X) (d := d) (R := R) (m := m) (tg := tg) (ln := ln) (F := F) (me := me) (cl := cl) (hd := hd) (hC := hC) (sc := sc) (pg := pg) (o_sc := o_sc) (t_sc := t_sc) (e_sc := e_sc) (o_pg := o_pg) (t_pg := t_pg) (e_pg := e_pg) (o_me := o_me) (t_me := t_me) (o_cl := o_cl) (t_cl := t_cl) (nm := nm) (o_nm := o_nm) (t_nm := t_nm) (p_0 := p_0) (p_1 := p_1) (p_2 := p_2) (p_3 := p_3) (p_4 := p_4) (p_5 := p_5) (p_6 := p_6) (p_7 := p_7) (p_8 := p_8) (p_9 := p_9) (p_10 := p_10) (p_11 := p_11) (c_NP := c_NP) (mm0 := mm) (ih := ih) L mx tgx lnx Fx (la) (pa) (by omega) gL_0 gL_1 gL_2 gL_3 hXx hCx hMx yx_la (Or.inr ⟨ho1580.1, ho1580.2⟩) (by omega) (by omega) (by omega) (by omega) (by omega) (by omega) (by omega) (by omega) (by omega) (by omega) (by omega) (by omega) (Or.inr ⟨pq.1, pq.2⟩) (Or.inl (by omega)) (by omega) cx_NP cx_NM (WK_m wx_cl (by omega))
      · have _q := h1581
        have ho1585 : own mx (la) ∧ tgx (la) = 8 := yx_la.resolve_left h1581
        refine jx_ld (pc_q := 28) (l_q := L) (st_q := [rv (me)]) rfl (jl_rvn gL_0) ?_
        refine cx_gr (pc_q := 31) (c := 8) (q := 1) (v := sc) rfl rfl (by decide) (by decide) rfl rfl ho1445.1 ho1445.2 ((show Fx (me) (1 : Int) = F (me) (1 : Int) from hMx _ _ o_me (fun w => by have q1 := ho1445.2; rw [w, ho1446.2] at q1; exact absurd q1 (by decide)) (by rw [t_me]; rfl)).trans e_sc) ?_
        refine cx_gi (pc_q := 34) (c := 10) (q := 15) (v := Fx (sc) (15 : Int)) rfl rfl (by decide) (by decide) (Or.inl rfl) rfl ho1447.1 ho1447.2 rfl ?_
        have b1586 : (-2147483648 : Int) ≤ Fx (sc) (15 : Int) ∧ Fx (sc) (15 : Int) ≤ 2147483647 := by have z := HC_i (c := 10) (q := 15) hCx ho1447.1 ho1447.2 (by decide) rfl; rw [show Fx (sc) ((15 : Nat) : Int) = Fx (sc) (15 : Int) from rfl] at z; exact z
        refine jx_ar (pc_q := 36) (st_q := [.int (i32 (55)), .int (i32 (Fx (sc) (15 : Int)))]) rfl rfl rfl rfl ?_
        refine jx_icmp_ne (pc_q := 39) (tg := 51) rfl rfl rfl (by omega) (by omega) (by decide) (by decide) (fun h1587 => ?_) (fun h1587 => ?_)
        · have _q := h1587
          refine jx_ld (pc_q := 52) (l_q := L) (st_q := [rv (me)]) rfl (jl_rvn gL_0) ?_
          refine jx_ar (pc_q := 54) (st_q := [.int (i32 (52)), rv (me)]) rfl rfl rfl rfl ?_
          have q1588 := tz_b (Fx (sc) (15 : Int))
          have q1589 : Fx (sc) (7 : Int) = F (sc) (7 : Int) := (show Fx (sc) (7 : Int) = F (sc) (7 : Int) from hMx _ _ o_sc (fun w => by have q1 := ho1447.2; rw [w, ho1446.2] at q1; exact absurd q1 (by decide)) (by rw [t_sc]; rfl))
          have q1590 := lz_b (Fx (sc) (14 : Int))
          refine cx_vi (c := 8) (a := me) (st := []) (as := [.int (i32 (52))]) rfl rfl rfl ho1445.1 ho1445.2 (by decide) rfl ⟨rfl, rfl, (Nat.le_of_ble_eq_true rfl)⟩ rfl (k_LParser_expect (dd := d) (R := R) (m := mx) (tg := tgx) (ln := lnx) (F := Fx) (me := me) (tk := 52) (hd := by omega) (hC := hCx) (o_me := ho1445.1) (t_me := ho1445.2) (h_tk := by omega) (sc := sc) (pg := pg) (o_sc := ho1447.1) (t_sc := ho1447.2) (e_sc := ((show Fx (me) (1 : Int) = F (me) (1 : Int) from hMx _ _ o_me (fun w => by have q1 := ho1445.2; rw [w, ho1446.2] at q1; exact absurd q1 (by decide)) (by rw [t_me]; rfl)).trans e_sc)) (o_pg := ho1448.1) (t_pg := ho1448.2) (e_pg := ((show Fx (me) (0 : Int) = F (me) (0 : Int) from hMx _ _ o_me (fun w => by have q1 := ho1445.2; rw [w, ho1446.2] at q1; exact absurd q1 (by decide)) (by rw [t_me]; rfl)).trans e_pg)) (p_0 := by omega) (p_1 := by omega) (p_2 := by omega) (p_3 := by omega) (c_NP := cx_NP)) (fun o V_q hq => ?_)
          obtain ⟨m1591, tg1591, ln1591, F1592, rfl, rfl, hx1593, hC1594, hM1595, p1596, p1597, p1598, p1599, p1600, p1601, p1602, c1603, c1604, -⟩ | ⟨m1605, tg1605, ln1605, F1605, x1605, rfl, rfl, hx1605, hC1605, hM1605, ho1605, ht1605, p1606, p1607, p1608, p1609, c1610, c1611, -⟩ := hq
          rotate_left
          ·
            have c1612 : NM m m1605 tg1605 := NM_t cx_NM hx1605 c1611
            have lm1613 := hx1605.1
            refine Or.inr (Or.inr (Or.inr ⟨_, _, rfl, cx_exc (c := 15) ho1605 ht1605 (by decide), rfl, ?_⟩))
            have q1614 : Fx (sc) (7 : Int) = F (sc) (7 : Int) := (show Fx (sc) (7 : Int) = F (sc) (7 : Int) from hMx _ _ o_sc (fun w => by have q1 := ho1447.2; rw [w, ho1446.2] at q1; exact absurd q1 (by decide)) (by rw [t_sc]; rfl))
            exact Or.inr ⟨m1605, tg1605, ln1605, F1605, x1605, rfl, rfl, Ex_t hXx hx1605, hC1605, Fq_t (ln := ln) (ln1 := lnx) hMx hXx hM1605 (by decide) (Or.inr (Or.inl rfl)), (And.intro ho1605 ht1605).1, (And.intro ho1605 ht1605).2, by omega, by omega, by omega, by omega, c1610, c1612, trivial⟩
          have hM1615 : Fq cl [(9, 3), (10, 0), (10, 1), (10, 2), (10, 9), (11, 8), (11, 12), (11, 13), (11, 14), (11, 15), (11, 16), (11, 17), (11, 18)] m tg F F1592 := Fq_t (ln := ln) (ln1 := lnx) hMx hXx hM1595 (by decide) (Or.inr (Or.inl rfl))
          have lm1616 := hx1593.1
          have lt1617 : cl < 64 + (mx : Int) := ho1446.1.2.1
          have lt1618 : la < 64 + (mx : Int) := ho1585.1.2.1
          have lt1619 : pa < 64 + (mx : Int) := ho1580.1.2.1
          have lt1620 : nm < 64 + (mx : Int) := ho1449.1.2.1
          have ho1621 : own m1591 (me) ∧ tg1591 (me) = 9 := Ex_o hx1593 ⟨ho1445.1, ho1445.2⟩
          have ho1622 : own m1591 (cl) ∧ tg1591 (cl) = 8 := Ex_o hx1593 ⟨ho1446.1, ho1446.2⟩
          have ho1623 : own m1591 (la) ∧ tg1591 (la) = 8 := Ex_o hx1593 ⟨ho1585.1, ho1585.2⟩
          have ho1624 : own m1591 (pa) ∧ tg1591 (pa) = 7 := Ex_o hx1593 ⟨ho1580.1, ho1580.2⟩
          have ho1625 : own m1591 (sc) ∧ tg1591 (sc) = 11 := Ex_o hx1593 ⟨ho1447.1, ho1447.2⟩
          have ho1626 : own m1591 (pg) ∧ tg1591 (pg) = 10 := Ex_o hx1593 ⟨ho1448.1, ho1448.2⟩
          have ho1627 : own m1591 (nm) ∧ tg1591 (nm) = 7 := Ex_o hx1593 ⟨ho1449.1, ho1449.2⟩
          have hX1628 := Ex_t hXx hx1593
          have w1629 : WK F1592 cl (21) := WK_q wx_cl hCx ho1446.1 ho1446.2 hM1595 rfl
          have c1630 : NM m m1591 tg1591 := NM_t cx_NM hx1593 c1604
          refine Or.inl ⟨rfl, ?_⟩
          have q1631 := tz_b (F1592 (sc) (15 : Int))
          have q1632 := lz_b (F1592 (sc) (14 : Int))
          have q1633 : F1592 (pg) (9 : Int) = Fx (pg) (9 : Int) := (show F1592 (pg) (9 : Int) = Fx (pg) (9 : Int) from hM1595 _ _ ho1448.1 (own_z ho1448.1) (by rw [ho1448.2]; rfl))
          have q1634 : F1592 (me) (3 : Int) = Fx (me) (3 : Int) := (show F1592 (me) (3 : Int) = Fx (me) (3 : Int) from hM1595 _ _ ho1445.1 (own_z ho1445.1) (by rw [ho1445.2]; rfl))
          have q1635 : F1592 (cl) (0 : Int) = Fx (cl) (0 : Int) := (show F1592 (cl) (0 : Int) = Fx (cl) (0 : Int) from hM1595 _ _ ho1446.1 (own_z ho1446.1) (by rw [ho1446.2]; rfl))
          have q1636 : F1592 (cl) (3 : Int) = nm := ((show F1592 (cl) (3 : Int) = Fx (cl) (3 : Int) from hM1595 _ _ ho1446.1 (own_z ho1446.1) (by rw [ho1446.2]; rfl)).trans iv_9)
          have q1637 : F1592 (la) (103 : Int) = Fx (la) (103 : Int) := (show F1592 (la) (103 : Int) = Fx (la) (103 : Int) from hM1595 _ _ ho1585.1 (own_z ho1585.1) (by rw [ho1585.2]; rfl))
          have q1638 : F1592 (la) (100 : Int) = Fx (la) (100 : Int) := (show F1592 (la) (100 : Int) = Fx (la) (100 : Int) from hM1595 _ _ ho1585.1 (own_z ho1585.1) (by rw [ho1585.2]; rfl))
          have q1639 : F1592 (la) (101 : Int) = Fx (la) (101 : Int) := (show F1592 (la) (101 : Int) = Fx (la) (101 : Int) from hM1595 _ _ ho1585.1 (own_z ho1585.1) (by rw [ho1585.2]; rfl))
          exact k_LParser_readArguments_at_57 (X := X) (d := d) (R := R) (m := m) (tg := tg) (ln := ln) (F := F) (me := me) (cl := cl) (hd := hd) (hC := hC) (sc := sc) (pg := pg) (o_sc := o_sc) (t_sc := t_sc) (e_sc := e_sc) (o_pg := o_pg) (t_pg := t_pg) (e_pg := e_pg) (o_me := o_me) (t_me := t_me) (o_cl := o_cl) (t_cl := t_cl) (nm := nm) (o_nm := o_nm) (t_nm := t_nm) (p_0 := p_0) (p_1 := p_1) (p_2 := p_2) (p_3 := p_3) (p_4 := p_4) (p_5 := p_5) (p_6 := p_6) (p_7 := p_7) (p_8 := p_8) (p_9 := p_9) (p_10 := p_10) (p_11 := p_11) (c_NP := c_NP) (mm0 := mm) (ih := ih) L m1591 tg1591 ln1591 F1592 (la) (pa) (by omega) gL_0 gL_1 gL_2 gL_3 hX1628 hC1594 hM1615 (Or.inr ⟨ho1623.1, ho1623.2⟩) (Or.inr ⟨ho1624.1, ho1624.2⟩) (by omega) (by omega) (by omega) (by omega) (by omega) (by omega) (by omega) (by omega) (by omega) (by omega) (by omega) (by omega) (Or.inr ⟨pq.1, pq.2⟩) (iv_13.imp_right (fun w => by rw [show F1592 (la) (101 : Int) = Fx (la) (101 : Int) from (show F1592 (la) (101 : Int) = Fx (la) (101 : Int) from hM1595 _ _ ho1585.1 (own_z ho1585.1) (by rw [ho1585.2]; rfl))]; exact w)) (by omega) c1603 c1630 (WK_m w1629 (by omega))
        · have _q := h1587
          have t1640 : tz (Fx (sc) (15 : Int)) = 1 := tz_p (by omega)
          refine jx_ld (pc_q := 40) (l_q := L) (st_q := [rv (me)]) rfl (jl_rvn gL_0) ?_
          refine jx_ar (pc_q := 41) (st_q := [.int (i32 (4)), rv (me)]) rfl rfl rfl rfl ?_
          refine jx_ld (pc_q := 42) (l_q := L) (st_q := [rv (me), .int (i32 (4)), rv (me)]) rfl (jl_rvn gL_0) ?_
          refine cx_gr (pc_q := 45) (c := 8) (q := 1) (v := sc) rfl rfl (by decide) (by decide) rfl rfl ho1445.1 ho1445.2 ((show Fx (me) (1 : Int) = F (me) (1 : Int) from hMx _ _ o_me (fun w => by have q1 := ho1445.2; rw [w, ho1446.2] at q1; exact absurd q1 (by decide)) (by rw [t_me]; rfl)).trans e_sc) ?_
          refine cx_gi (pc_q := 48) (c := 10) (q := 16) (v := Fx (sc) (16 : Int)) rfl rfl (by decide) (by decide) (Or.inl rfl) rfl ho1447.1 ho1447.2 rfl ?_
          have b1641 : (-2147483648 : Int) ≤ Fx (sc) (16 : Int) ∧ Fx (sc) (16 : Int) ≤ 2147483647 := by have z := HC_i (c := 10) (q := 16) hCx ho1447.1 ho1447.2 (by decide) rfl; rw [show Fx (sc) ((16 : Nat) : Int) = Fx (sc) (16 : Int) from rfl] at z; exact z
          have q1642 : Fx (sc) (7 : Int) = F (sc) (7 : Int) := (show Fx (sc) (7 : Int) = F (sc) (7 : Int) from hMx _ _ o_sc (fun w => by have q1 := ho1447.2; rw [w, ho1446.2] at q1; exact absurd q1 (by decide)) (by rw [t_sc]; rfl))
          refine cx_vi (c := 8) (a := me) (st := []) (as := [.int (i32 (4)), .int (i32 (Fx (sc) (16 : Int)))]) rfl rfl rfl ho1445.1 ho1445.2 (by decide) rfl ⟨rfl, rfl, (Nat.le_of_ble_eq_true rfl)⟩ rfl (k_LParser_fail (dd := d) (R := R) (m := mx) (tg := tgx) (ln := lnx) (F := Fx) (me := me) (kd := 4) (pl := Fx (sc) (16 : Int)) (hd := by omega) (hC := hCx) (o_me := ho1445.1) (t_me := ho1445.2) (h_kd := by omega) (h_pl := by omega) (sc := sc) (pg := pg) (o_sc := ho1447.1) (t_sc := ho1447.2) (e_sc := ((show Fx (me) (1 : Int) = F (me) (1 : Int) from hMx _ _ o_me (fun w => by have q1 := ho1445.2; rw [w, ho1446.2] at q1; exact absurd q1 (by decide)) (by rw [t_me]; rfl)).trans e_sc)) (o_pg := ho1448.1) (t_pg := ho1448.2) (e_pg := ((show Fx (me) (0 : Int) = F (me) (0 : Int) from hMx _ _ o_me (fun w => by have q1 := ho1445.2; rw [w, ho1446.2] at q1; exact absurd q1 (by decide)) (by rw [t_me]; rfl)).trans e_pg)) (p_0 := by omega) (p_1 := by omega) (c_NP := cx_NP)) (fun o V_q hq => ?_)
          obtain ⟨m1643, tg1643, ln1643, F1644, rfl, rfl, hx1645, hC1646, hM1647, p1648, c1649, c1650, -⟩ | ⟨m1651, tg1651, ln1651, F1651, x1651, rfl, rfl, hx1651, hC1651, hM1651, ho1651, ht1651, p1652, p1653, p1654, p1655, c1656, c1657, -⟩ := hq
          rotate_left
          ·
            have c1658 : NM m m1651 tg1651 := NM_t cx_NM hx1651 c1657
            have lm1659 := hx1651.1
            refine Or.inr (Or.inr (Or.inr ⟨_, _, rfl, cx_exc (c := 15) ho1651 ht1651 (by decide), rfl, ?_⟩))
            have q1660 : Fx (sc) (7 : Int) = F (sc) (7 : Int) := (show Fx (sc) (7 : Int) = F (sc) (7 : Int) from hMx _ _ o_sc (fun w => by have q1 := ho1447.2; rw [w, ho1446.2] at q1; exact absurd q1 (by decide)) (by rw [t_sc]; rfl))
            exact Or.inr ⟨m1651, tg1651, ln1651, F1651, x1651, rfl, rfl, Ex_t hXx hx1651, hC1651, Fq_t (ln := ln) (ln1 := lnx) hMx hXx hM1651 (by decide) (Or.inr (Or.inl rfl)), (And.intro ho1651 ht1651).1, (And.intro ho1651 ht1651).2, by omega, by omega, by omega, by omega, c1656, c1658, trivial⟩
          exact p1648.elim
set_option maxRecDepth 20000 in
set_option maxHeartbeats 4000000 in
theorem k_LParser_readArguments {X : jX} {dd : Nat} {R : Nat → jC} {m : Nat} {tg ln : Int → Int} {F : Int → Int → Int} {me cl : Int} (hd : 62 ≤ dd) (hC : HC 0 m tg ln F) {sc pg : Int} (o_sc : own m sc) (t_sc : tg sc = 11) (e_sc : F me (1 : Int) = sc) (o_pg : own m pg) (t_pg : tg pg = 10) (e_pg : F me (0 : Int) = pg) (o_me : own m me) (t_me : tg me = 9) (o_cl : own m cl) (t_cl : tg cl = 8) {nm : Int} (o_nm : own m nm) (t_nm : tg nm = 7) (p_0 : F sc (8 : Int) + 2 * tz (F sc (15 : Int)) ≤ F sc (7 : Int) + 1) (p_1 : F sc (8 : Int) + 2 * lz (F sc (14 : Int)) ≤ F sc (7 : Int) + 1) (p_2 : F sc (8 : Int) ≤ F sc (7 : Int)) (p_3 : tz (F sc (15 : Int)) = 1) (p_4 : F cl (0 : Int) = 5) (p_5 : F cl (3 : Int) = nm) (p_6 : F cl (5 : Int) = 0) (p_7 : F cl (6 : Int) = 0) (p_8 : F cl (7 : Int) = 0) (p_9 : F cl (8 : Int) = 0) (p_10 : F cl (101 : Int) = 0) (p_11 : F cl (103 : Int) = 0) (c_NP : NP m tg F) : wk X dd 191 [rv me, rv cl] (cV R m tg ln F) (fun o V_q => (∃ (m_q : Nat) (tg_q ln_q : Int → Int) (F_q : Int → Int → Int), V_q = cV R m_q tg_q ln_q F_q ∧ o = .inl none ∧ Ex m tg ln m_q tg_q ln_q ∧ HC 0 m_q tg_q ln_q F_q ∧ Fq cl [(9, 3), (10, 0), (10, 1), (10, 2), (10, 9), (11, 8), (11, 12), (11, 13), (11, 14), (11, 15), (11, 16), (11, 17), (11, 18)] m tg F F_q ∧ (F_q sc (8 : Int) + 2 * tz (F_q sc (15 : Int)) ≤ F sc (7 : Int) + 1) ∧ (F_q sc (8 : Int) + 2 * lz (F_q sc (14 : Int)) ≤ F sc (7 : Int) + 1) ∧ (F_q sc (8 : Int) ≤ F sc (7 : Int)) ∧ (F sc (8 : Int) ≤ F_q sc (8 : Int)) ∧ (szD m_q tg_q ln_q = szD m tg ln + 25 * ((m_q : Int) - (m : Int))) ∧ ((m_q : Int) ≤ (m : Int) + (F_q sc (8 : Int) - F sc (8 : Int)) + (-1)) ∧ (F_q pg (9 : Int) ≤ F pg (9 : Int) + ((m_q : Int) - (m : Int))) ∧ (WK F_q cl (21)) ∧ (F_q me (3 : Int) = F me (3 : Int)) ∧ (NP m_q tg_q F_q) ∧ (NM m m_q tg_q) ∧ True) ∨ (∃ (m_q : Nat) (tg_q ln_q : Int → Int) (F_q : Int → Int → Int) (x : Nat), V_q = cV R m_q tg_q ln_q F_q ∧ o = .inr x ∧ Ex m tg ln m_q tg_q ln_q ∧ HC 0 m_q tg_q ln_q F_q ∧ Fq cl [(9, 3), (10, 0), (10, 1), (10, 2), (10, 9), (11, 8), (11, 12), (11, 13), (11, 14), (11, 15), (11, 16), (11, 17), (11, 18)] m tg F F_q ∧ (own m_q (x : Int)) ∧ (tg_q (x : Int) = 16) ∧ (F_q pg (0 : Int) ≠ 0) ∧ (szD m_q tg_q ln_q = szD m tg ln + 25 * ((m_q : Int) - (m : Int))) ∧ ((m_q : Int) ≤ (m : Int) + (F_q sc (8 : Int) - F sc (8 : Int)) + (1)) ∧ (F_q sc (8 : Int) ≤ F sc (7 : Int) + 1) ∧ (NP m_q tg_q F_q) ∧ (NM m m_q tg_q) ∧ True)) := by
  obtain ⟨d, rfl⟩ : ∃ d, dd = d + 1 := ⟨dd - 1, by omega⟩
  refine wk_of (e := jm191) rfl (by rw [jS_r, jS_r, jS_0]; exact Nat.le_of_ble_eq_true rfl) ?_
  rw [la_r, la_r, la_0]
  show wj X d jm191 (0, [(0, rv (me)), (1, rv (cl))], [], cV R m tg ln F) _
  have hM0 : Fq cl [(9, 3), (10, 0), (10, 1), (10, 2), (10, 9), (11, 8), (11, 12), (11, 13), (11, 14), (11, 15), (11, 16), (11, 17), (11, 18)] m tg F F := Fq_r
  have hX0 : Ex m tg ln m tg ln := Ex_r
  obtain ⟨L0, eL0⟩ : ∃ q : jL, q = [(0, rv (me)), (1, rv (cl))] := ⟨_, rfl⟩
  rw [← eL0]
  have g1661 : jGet L0 0 = some (rv (me)) := eL0 ▸ (rfl : jGet [(0, rv (me)), (1, rv (cl))] 0 = some (rv (me)))
  have g1662 : jGet L0 1 = some (rv (cl)) := eL0 ▸ (rfl : jGet [(0, rv (me)), (1, rv (cl))] 1 = some (rv (cl)))
  clear eL0
  have tb0 := tz_b (F sc (15 : Int))
  have lb0 := lz_b (F sc (14 : Int))
  have ob0 : (0 : Int) ≤ F me (3 : Int) ∧ F me (3 : Int) ≤ 8 := HC_i (c := 8) (q := 3) hC o_me t_me (by decide) rfl
  have tp0 : F me (2 : Int) < 64 + (m : Int) := by
    have z : F me (2 : Int) = 0 ∨ (own m (F me (2 : Int)) ∧ tg (F me (2 : Int)) = 7) := HC_r (c := 8) (q := 2) hC o_me t_me (by decide) rfl
    rcases z with w | w
    · omega
    · exact w.1.2.1
  have nz_cl := own_z o_cl
  refine jx_ld (pc_q := 1) (l_q := L0) (st_q := [rv (me)]) rfl (jl_rvn g1661) ?_
  have b1663 : (0 : Int) ≤ F (me) (3 : Int) ∧ F (me) (3 : Int) ≤ 8 := by have z := HC_i (c := 8) (q := 3) hC o_me t_me (by decide) rfl; exact z
  have q1664 := tz_b (F (sc) (15 : Int))
  have q1665 := lz_b (F (sc) (14 : Int))
  refine cx_vi (c := 8) (a := me) (st := []) (as := []) rfl rfl rfl o_me t_me (by decide) rfl ⟨rfl, rfl, (Nat.le_of_ble_eq_true rfl)⟩ rfl (k_LParser_openBracket (dd := d) (R := R) (m := m) (tg := tg) (ln := ln) (F := F) (me := me) (hd := by omega) (hC := hC) (o_me := o_me) (t_me := t_me) (sc := sc) (pg := pg) (o_sc := o_sc) (t_sc := t_sc) (e_sc := e_sc) (o_pg := o_pg) (t_pg := t_pg) (e_pg := e_pg) (p_0 := by omega) (p_1 := by omega) (p_2 := by omega) (p_3 := by omega) (c_NP := c_NP)) (fun o V_q hq => ?_)
  obtain ⟨m1666, tg1666, ln1666, F1667, rfl, rfl, hx1668, hC1669, hM1670, p1671, p1672, p1673, p1674, p1675, p1676, p1677, p1678, p1679, c1680, c1681, -⟩ | ⟨m1682, tg1682, ln1682, F1682, x1682, rfl, rfl, hx1682, hC1682, hM1682, ho1682, ht1682, p1683, p1684, p1685, p1686, c1687, c1688, -⟩ := hq
  rotate_left
  ·
    have c1689 : NM m m1682 tg1682 := NM_t NM_0 hx1682 c1688
    have lm1690 := hx1682.1
    refine Or.inr (Or.inr (Or.inr ⟨_, _, rfl, cx_exc (c := 15) ho1682 ht1682 (by decide), rfl, ?_⟩))
    exact Or.inr ⟨m1682, tg1682, ln1682, F1682, x1682, rfl, rfl, Ex_t hX0 hx1682, hC1682, Fq_t (ln := ln) (ln1 := ln) hM0 hX0 hM1682 (by decide) (Or.inr (Or.inl rfl)), (And.intro ho1682 ht1682).1, (And.intro ho1682 ht1682).2, by omega, by omega, by omega, by omega, c1687, c1689, trivial⟩
  have hM1691 : Fq cl [(9, 3), (10, 0), (10, 1), (10, 2), (10, 9), (11, 8), (11, 12), (11, 13), (11, 14), (11, 15), (11, 16), (11, 17), (11, 18)] m tg F F1667 := Fq_t (ln := ln) (ln1 := ln) hM0 hX0 hM1670 (by decide) (Or.inr (Or.inl rfl))
  have lm1692 := hx1668.1
  have lt1693 : cl < 64 + (m : Int) := o_cl.2.1
  have lt1694 : nm < 64 + (m : Int) := o_nm.2.1
  have ho1695 : own m1666 (me) ∧ tg1666 (me) = 9 := Ex_o hx1668 ⟨o_me, t_me⟩
  have ho1696 : own m1666 (cl) ∧ tg1666 (cl) = 8 := Ex_o hx1668 ⟨o_cl, t_cl⟩
  have ho1697 : own m1666 (sc) ∧ tg1666 (sc) = 11 := Ex_o hx1668 ⟨o_sc, t_sc⟩
  have ho1698 : own m1666 (pg) ∧ tg1666 (pg) = 10 := Ex_o hx1668 ⟨o_pg, t_pg⟩
  have ho1699 : own m1666 (nm) ∧ tg1666 (nm) = 7 := Ex_o hx1668 ⟨o_nm, t_nm⟩
  have hX1700 := Ex_t hX0 hx1668
  have c1701 : NM m m1666 tg1666 := NM_t NM_0 hx1668 c1681
  refine Or.inl ⟨rfl, ?_⟩
  refine jx_ld (pc_q := 5) (l_q := L0) (st_q := [rv (cl)]) rfl (jl_rvn g1662) ?_
  refine jx_ar (pc_q := 6) (st_q := .null :: [rv (cl)]) rfl rfl rfl rfl ?_
  rw [← rv_0]
  refine cx_po (pc_q := 9) (c := 7) (q := 4) (qi := (4 : Int)) (z := 0) rfl rfl (by decide) (by decide) rfl rfl rfl (by decide) rfl ho1696.1 ho1696.2 rfl ?_
  obtain ⟨F1702, eF1702⟩ : ∃ q, q = uF F1667 (cl) (4 : Int) (0) := ⟨_, rfl⟩
  rw [← eF1702]
  have hC1703 : HC 0 m1666 tg1666 ln1666 F1702 := by rw [eF1702]; exact HC_fr (c := 7) (q := 4) (by decide) hC1669 ho1696.2 (by decide) rfl (Or.inl rfl) ⟨fun w => absurd w (by decide), fun w => absurd w (by decide)⟩
  have hM1704 : Fq cl [(9, 3), (10, 0), (10, 1), (10, 2), (10, 9), (11, 8), (11, 12), (11, 13), (11, 14), (11, 15), (11, 16), (11, 17), (11, 18)] m tg F F1702 := by rw [eF1702]; exact Fq_x hM1691 (Or.inl rfl)
  have c1705 : NP m1666 tg1666 F1702 := by rw [eF1702]; exact NP_un hC1669 c1680 ho1696.1 ho1696.2 (by rw [show F1667 (cl) (103 : Int) = F (cl) (103 : Int) from (show F1667 (cl) (103 : Int) = F (cl) (103 : Int) from hM1670 _ _ o_cl (own_z o_cl) (by rw [t_cl]; rfl))]; omega) (by decide) (Or.inl (by decide))
  refine jx_ar (pc_q := 10) (st_q := .null :: []) rfl rfl rfl rfl ?_
  rw [← rv_0]
  refine jx_ld (pc_q := 11) (l_q := jSto1 L0 2 (rv (0))) (st_q := []) rfl (js_rvn (by decide)) ?_
  obtain ⟨L1706, eL1706⟩ : ∃ q : jL, q = jSto1 L0 2 (rv (0)) := ⟨_, rfl⟩
  rw [← eL1706]
  have g1707 : jGet L1706 0 = some (rv (me)) := eL1706 ▸ jg_nr (by decide) g1661
  have g1708 : jGet L1706 1 = some (rv (cl)) := eL1706 ▸ jg_nr (by decide) g1662
  have g1709 : jGet L1706 2 = some (rv (0)) := eL1706 ▸ jg_eq
  clear eL1706
  refine jx_ld (pc_q := 12) (l_q := L1706) (st_q := [rv (cl)]) rfl (jl_rvn g1708) ?_
  refine cx_gr (pc_q := 15) (c := 7) (q := 3) (v := nm) rfl rfl (by decide) (by decide) rfl rfl ho1696.1 ho1696.2 (((show F1702 (cl) (3 : Int) = F1667 (cl) (3 : Int) from by rw [eF1702]; exact uF_j (by decide)).trans (show F1667 (cl) (3 : Int) = F (cl) (3 : Int) from hM1670 _ _ o_cl (own_z o_cl) (by rw [t_cl]; rfl))).trans p_5) ?_
  refine cx_gr (pc_q := 18) (c := 6) (q := 13) (v := F (nm) (13 : Int)) rfl rfl (by decide) (by decide) rfl rfl ho1699.1 ho1699.2 ((show F1702 (nm) (13 : Int) = F1667 (nm) (13 : Int) from by rw [eF1702]; exact uF_j (by decide)).trans (show F1667 (nm) (13 : Int) = F (nm) (13 : Int) from hM1670 _ _ o_nm (own_z o_nm) (by rw [t_nm]; rfl))) ?_
  have y1710 : F (nm) (13 : Int) = 0 ∨ (own m1666 (F (nm) (13 : Int)) ∧ tg1666 (F (nm) (13 : Int)) = 7) := by have z := HC_r (c := 6) (q := 13) hC1703 ho1699.1 ho1699.2 (by decide) rfl; rw [show F1702 (nm) ((13 : Nat) : Int) = F (nm) (13 : Int) from ((show F1702 (nm) (13 : Int) = F1667 (nm) (13 : Int) from by rw [eF1702]; exact uF_j (by decide)).trans (show F1667 (nm) (13 : Int) = F (nm) (13 : Int) from hM1670 _ _ o_nm (own_z o_nm) (by rw [t_nm]; rfl)))] at z; exact z
  refine jx_ld (pc_q := 19) (l_q := jSto1 L1706 3 (rv (F (nm) (13 : Int)))) (st_q := []) rfl (js_rvn (by decide)) ?_
  obtain ⟨L1711, eL1711⟩ : ∃ q : jL, q = jSto1 L1706 3 (rv (F (nm) (13 : Int))) := ⟨_, rfl⟩
  rw [← eL1711]
  have g1712 : jGet L1711 0 = some (rv (me)) := eL1711 ▸ jg_nr (by decide) g1707
  have g1713 : jGet L1711 1 = some (rv (cl)) := eL1711 ▸ jg_nr (by decide) g1708
  have g1714 : jGet L1711 2 = some (rv (0)) := eL1711 ▸ jg_nr (by decide) g1709
  have g1715 : jGet L1711 3 = some (rv (F (nm) (13 : Int))) := eL1711 ▸ jg_eq
  clear eL1711
  have q1716 : F1702 (sc) (8 : Int) = F1667 (sc) (8 : Int) := (show F1702 (sc) (8 : Int) = F1667 (sc) (8 : Int) from by rw [eF1702]; exact uF_j (by decide))
  have q1717 : F1702 (sc) (15 : Int) = F1667 (sc) (15 : Int) := (show F1702 (sc) (15 : Int) = F1667 (sc) (15 : Int) from by rw [eF1702]; exact uF_j (by decide))
  have q1718 : tz (F1702 (sc) (15 : Int)) = tz (F1667 (sc) (15 : Int)) := by rw [q1717]
  have q1719 := tz_b (F1667 (sc) (15 : Int))
  have q1720 : F1702 (sc) (14 : Int) = F1667 (sc) (14 : Int) := (show F1702 (sc) (14 : Int) = F1667 (sc) (14 : Int) from by rw [eF1702]; exact uF_j (by decide))
  have q1721 : lz (F1702 (sc) (14 : Int)) = lz (F1667 (sc) (14 : Int)) := by rw [q1720]
  have q1722 := lz_b (F1667 (sc) (14 : Int))
  have q1723 : F1702 (pg) (9 : Int) = F (pg) (9 : Int) := ((show F1702 (pg) (9 : Int) = F1667 (pg) (9 : Int) from by rw [eF1702]; exact uF_j (by decide)).trans (show F1667 (pg) (9 : Int) = F (pg) (9 : Int) from hM1670 _ _ o_pg (own_z o_pg) (by rw [t_pg]; rfl)))
  have q1724 : F1702 (me) (3 : Int) = F1667 (me) (3 : Int) := (show F1702 (me) (3 : Int) = F1667 (me) (3 : Int) from by rw [eF1702]; exact uF_j (by decide))
  have q1725 : F1702 (cl) (0 : Int) = F (cl) (0 : Int) := ((show F1702 (cl) (0 : Int) = F1667 (cl) (0 : Int) from by rw [eF1702]; exact uF_j (by decide)).trans (show F1667 (cl) (0 : Int) = F (cl) (0 : Int) from hM1670 _ _ o_cl (own_z o_cl) (by rw [t_cl]; rfl)))
  have q1726 : F1702 (cl) (3 : Int) = nm := (((show F1702 (cl) (3 : Int) = F1667 (cl) (3 : Int) from by rw [eF1702]; exact uF_j (by decide)).trans (show F1667 (cl) (3 : Int) = F (cl) (3 : Int) from hM1670 _ _ o_cl (own_z o_cl) (by rw [t_cl]; rfl))).trans p_5)
  exact k_LParser_readArguments_at_19 (X := X) (d := d) (R := R) (m := m) (tg := tg) (ln := ln) (F := F) (me := me) (cl := cl) (hd := hd) (hC := hC) (sc := sc) (pg := pg) (o_sc := o_sc) (t_sc := t_sc) (e_sc := e_sc) (o_pg := o_pg) (t_pg := t_pg) (e_pg := e_pg) (o_me := o_me) (t_me := t_me) (o_cl := o_cl) (t_cl := t_cl) (nm := nm) (o_nm := o_nm) (t_nm := t_nm) (p_0 := p_0) (p_1 := p_1) (p_2 := p_2) (p_3 := p_3) (p_4 := p_4) (p_5 := p_5) (p_6 := p_6) (p_7 := p_7) (p_8 := p_8) (p_9 := p_9) (p_10 := p_10) (p_11 := p_11) (c_NP := c_NP) _ L1711 m1666 tg1666 ln1666 F1702 (0) (F (nm) (13 : Int)) rfl g1712 g1713 g1714 g1715 hX1700 hC1703 hM1704 (Or.inl rfl) y1710 (by omega) (by omega) (by omega) (by omega) (by omega) (by omega) (by omega) (by omega) (by omega) (by omega) (by omega) (by omega) (by have z := HC_r (c := 6) (q := 13) hC o_nm t_nm (by decide) rfl; exact z) (Or.inl rfl) c1705 c1701 (WK_i (K := 21) (by rw [show F1702 (cl) (103 : Int) = F (cl) (103 : Int) from ((show F1702 (cl) (103 : Int) = F1667 (cl) (103 : Int) from by rw [eF1702]; exact uF_j (by decide)).trans (show F1667 (cl) (103 : Int) = F (cl) (103 : Int) from hM1670 _ _ o_cl (own_z o_cl) (by rw [t_cl]; rfl)))]; omega) (by rw [show F1702 (cl) (101 : Int) = F (cl) (101 : Int) from ((show F1702 (cl) (101 : Int) = F1667 (cl) (101 : Int) from by rw [eF1702]; exact uF_j (by decide)).trans (show F1667 (cl) (101 : Int) = F (cl) (101 : Int) from hM1670 _ _ o_cl (own_z o_cl) (by rw [t_cl]; rfl)))]; omega) (by rw [show F1702 (cl) (8 : Int) = F (cl) (8 : Int) from ((show F1702 (cl) (8 : Int) = F1667 (cl) (8 : Int) from by rw [eF1702]; exact uF_j (by decide)).trans (show F1667 (cl) (8 : Int) = F (cl) (8 : Int) from hM1670 _ _ o_cl (own_z o_cl) (by rw [t_cl]; rfl)))]; omega) (Or.inl (show F1702 (cl) (4 : Int) = 0 from by rw [eF1702]; exact uF_e)) (Or.inl (by rw [show F1702 (cl) (5 : Int) = F (cl) (5 : Int) from ((show F1702 (cl) (5 : Int) = F1667 (cl) (5 : Int) from by rw [eF1702]; exact uF_j (by decide)).trans (show F1667 (cl) (5 : Int) = F (cl) (5 : Int) from hM1670 _ _ o_cl (own_z o_cl) (by rw [t_cl]; rfl)))]; omega)) (Or.inl (by rw [show F1702 (cl) (6 : Int) = F (cl) (6 : Int) from ((show F1702 (cl) (6 : Int) = F1667 (cl) (6 : Int) from by rw [eF1702]; exact uF_j (by decide)).trans (show F1667 (cl) (6 : Int) = F (cl) (6 : Int) from hM1670 _ _ o_cl (own_z o_cl) (by rw [t_cl]; rfl)))]; omega)) (Or.inl (by rw [show F1702 (cl) (7 : Int) = F (cl) (7 : Int) from ((show F1702 (cl) (7 : Int) = F1667 (cl) (7 : Int) from by rw [eF1702]; exact uF_j (by decide)).trans (show F1667 (cl) (7 : Int) = F (cl) (7 : Int) from hM1670 _ _ o_cl (own_z o_cl) (by rw [t_cl]; rfl)))]; omega)) (Or.inr (Or.inl (show F1702 (cl) (4 : Int) = 0 from by rw [eF1702]; exact uF_e))))
