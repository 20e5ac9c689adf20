set_option maxRecDepth 20000 in
set_option maxHeartbeats 4000000 in
theorem k_LParser_parse_at_25 {X : jX} {d : Nat} {R : Nat → jC} {m : Nat} {tg ln : Int → Int} {F : Int → Int → Int} {me : Int} (hd : 210 ≤ d + 1) (hC : HC 0 m tg ln F) {sc pg : Int} (o_sc : own m sc) (t_sc : tg sc = 11) (e_sc : F me (1 : Int) = sc) (o_pg : own m pg) (t_pg : tg pg = 10) (e_pg : F me (0 : Int) = pg) (o_me : own m me) (t_me : tg me = 9) (p_0 : F sc (8 : Int) = -1) (p_1 : CR m tg F (F pg (3 : Int)) 0) (c_NP : NP m tg F) : ∀ (mm : Nat) (L : jL) (mx : Nat) (tgx lnx : Int → Int) (Fx : Int → Int → Int) (k : Int), (3000 - k).toNat = mm → jGet L 0 = some (rv (me)) → jGet L 1 = some (.int (i32 k)) → Ex m tg ln mx tgx lnx → HC 0 mx tgx lnx Fx → Fq 0 [(7, 15), (9, 2), (9, 3), (10, 0), (10, 1), (10, 2), (10, 5), (10, 7), (10, 8), (10, 9), (11, 8), (11, 12), (11, 13), (11, 14), (11, 15), (11, 16), (11, 17), (11, 18), (24, -5), (25, -5), (26, -5)] m tg F Fx → ((-2147483648 : Int) ≤ k ∧ k ≤ 2147483647) → (Fx sc (8 : Int) + 2 * tz (Fx sc (15 : Int)) ≤ F sc (7 : Int) + 1) → (Fx sc (8 : Int) + 2 * lz (Fx sc (14 : Int)) ≤ F sc (7 : Int) + 1) → (Fx pg (9 : Int) ≤ F pg (9 : Int) + ((mx : Int) - (m : Int))) → (F sc (8 : Int) ≤ Fx sc (8 : Int)) → (szD mx tgx lnx = szD m tg ln + 25 * ((mx : Int) - (m : Int))) → (0 ≤ k) → (k ≤ 3000) → (0 ≤ Fx sc (8 : Int)) → ((mx : Int) ≤ (m : Int) + (Fx sc (8 : Int) - F sc (8 : Int)) + 2) → (CR mx tgx Fx (F pg (3 : Int)) 0) → (NP mx tgx Fx) → (NM m mx tgx) → wj X d jm160 (25, L, [], cV R mx tgx lnx Fx) (fun o V_q => ∃ (m_q : Nat) (tg_q ln_q : Int → Int) (F_q : Int → Int → Int), V_q = cV R m_q tg_q ln_q F_q ∧ o = .inl none ∧ Ex m tg ln m_q tg_q ln_q ∧ HC 0 m_q tg_q ln_q F_q ∧ Fq 0 [(7, 15), (9, 2), (9, 3), (10, 0), (10, 1), (10, 2), (10, 5), (10, 7), (10, 8), (10, 9), (11, 8), (11, 12), (11, 13), (11, 14), (11, 15), (11, 16), (11, 17), (11, 18), (24, -5), (25, -5), (26, -5)] m tg F F_q ∧ (szD m_q tg_q ln_q = szD m tg ln + 25 * ((m_q : Int) - (m : Int))) ∧ ((m_q : Int) ≤ (m : Int) + F sc (7 : Int) + 8) ∧ (F_q pg (0 : Int) ≠ 0 ∨ F_q pg (9 : Int) ≤ F pg (9 : Int) + ((m_q : Int) - (m : Int))) ∧ (F_q pg (0 : Int) ≠ 0 ∨ (crt F_q (F pg (3 : Int)) ≤ 1 ∨ 4 * crt F_q (F pg (3 : Int)) + 2 ≤ F sc (7 : Int))) ∧ (NP m_q tg_q F_q) ∧ (NM m m_q tg_q) ∧ True) := by
  intro mm
  induction mm using Nat.strongRecOn with
  | ind mm ih =>
    intro L mx tgx lnx Fx k hmm gL_0 gL_1 hXx hCx hMx rx_k iv_0 iv_1 iv_2 iv_3 iv_4 iv_5 iv_6 iv_7 iv_8 iv_9 cx_NP cx_NM
    have hX0 : Ex m tg ln m tg ln := Ex_r
    have lm1 := hXx.1
    have ho2 : own mx (me) ∧ tgx (me) = 9 := Ex_o hXx ⟨o_me, t_me⟩
    have ho3 : own mx (sc) ∧ tgx (sc) = 11 := Ex_o hXx ⟨o_sc, t_sc⟩
    have ho4 : own mx (pg) ∧ tgx (pg) = 10 := Ex_o hXx ⟨o_pg, t_pg⟩
    have hX5 := Ex_t hX0 hXx
    have tb0 := tz_b (F sc (15 : Int))
    have lb0 := lz_b (F sc (14 : Int))
    have tb1 := tz_b (Fx sc (15 : Int))
    have lb1 := lz_b (Fx sc (14 : Int))
    have ob0 : (0 : Int) ≤ F me (3 : Int) ∧ F me (3 : Int) ≤ 8 := HC_i (c := 8) (q := 3) hC o_me t_me (by decide) rfl
    have tp0 : F me (2 : Int) < 64 + (m : Int) := by
      have z : F me (2 : Int) = 0 ∨ (own m (F me (2 : Int)) ∧ tg (F me (2 : Int)) = 7) := HC_r (c := 8) (q := 2) hC o_me t_me (by decide) rfl
      rcases z with w | w
      · omega
      · exact w.1.2.1
    refine jx_ld (pc_q := 26) (l_q := L) (st_q := [.int (i32 (k))]) rfl (jl_iloadn gL_1) ?_
    refine jx_ar (pc_q := 29) (st_q := [.int (i32 (3000)), .int (i32 (k))]) rfl rfl rfl rfl ?_
    refine jx_icmp_ge (pc_q := 32) (tg := 64) rfl rfl rfl (by omega) (by omega) (by decide) (by decide) (fun h6 => ?_) (fun h6 => ?_)
    · have _q := h6
      refine jx_ld (pc_q := 65) (l_q := L) (st_q := [rv (me)]) rfl (jl_rvn gL_0) ?_
      refine cx_gr (pc_q := 68) (c := 8) (q := 1) (v := sc) rfl rfl (by decide) (by decide) rfl rfl ho2.1 ho2.2 ((show Fx (me) (1 : Int) = F (me) (1 : Int) from hMx _ _ o_me (own_z o_me) (by rw [t_me]; rfl)).trans e_sc) ?_
      refine cx_gi (pc_q := 71) (c := 10) (q := 14) (v := Fx (sc) (14 : Int)) rfl rfl (by decide) (by decide) (Or.inl rfl) rfl ho3.1 ho3.2 rfl ?_
      have b7 : (-2 : Int) ≤ Fx (sc) (14 : Int) ∧ Fx (sc) (14 : Int) ≤ 15 := by have z := HC_i (c := 10) (q := 14) hCx ho3.1 ho3.2 (by decide) rfl; rw [show Fx (sc) ((14 : Nat) : Int) = Fx (sc) (14 : Int) from rfl] at z; exact z
      refine jx_if_ne (pc_q := 74) (tg := 105) rfl rfl rfl (by omega) (by omega) (fun h8 => ?_) (fun h8 => ?_)
      · have _q := h8
        refine jx_ld (pc_q := 106) (l_q := L) (st_q := [rv (me)]) rfl (jl_rvn gL_0) ?_
        refine cx_gr (pc_q := 109) (c := 8) (q := 0) (v := pg) rfl rfl (by decide) (by decide) rfl rfl ho2.1 ho2.2 ((show Fx (me) (0 : Int) = F (me) (0 : Int) from hMx _ _ o_me (own_z o_me) (by rw [t_me]; rfl)).trans e_pg) ?_
        refine cx_gr (pc_q := 112) (c := 9) (q := 3) (v := F (pg) (3 : Int)) rfl rfl (by decide) (by decide) rfl rfl ho4.1 ho4.2 (show Fx (pg) (3 : Int) = F (pg) (3 : Int) from hMx _ _ o_pg (own_z o_pg) (by rw [t_pg]; rfl)) ?_
        have y9 : own mx (F (pg) (3 : Int)) ∧ tgx (F (pg) (3 : Int)) = 24 ∧ ((6 : Int) ≠ 0 → lnx (F (pg) (3 : Int)) = 6) := by have z := HC_n (c := 9) (q := 3) hCx ho4.1 ho4.2 (own_z ho4.1) (by decide) rfl; rw [show Fx (pg) ((3 : Nat) : Int) = F (pg) (3 : Int) from (show Fx (pg) (3 : Int) = F (pg) (3 : Int) from hMx _ _ o_pg (own_z o_pg) (by rw [t_pg]; rfl))] at z; exact ⟨z.1, z.2.1, z.2.2.1⟩
        have ly9 : lnx (F (pg) (3 : Int)) = 6 := y9.2.2 (by decide)
        refine jx_ar (pc_q := 113) (st_q := [.int (i32 (0)), rv (F (pg) (3 : Int))]) rfl rfl rfl rfl ?_
        refine jx_ld (pc_q := 114) (l_q := L) (st_q := [rv (me), .int (i32 (0)), rv (F (pg) (3 : Int))]) rfl (jl_rvn gL_0) ?_
        refine jx_ar (pc_q := 115) (st_q := [.int (i32 (0)), rv (me), .int (i32 (0)), rv (F (pg) (3 : Int))]) rfl rfl rfl rfl ?_
        have q10 := tz_b (Fx (sc) (15 : Int))
        have q11 : Fx (sc) (7 : Int) = F (sc) (7 : Int) := (show Fx (sc) (7 : Int) = F (sc) (7 : Int) from hMx _ _ o_sc (own_z o_sc) (by rw [t_sc]; rfl))
        have q12 := lz_b (Fx (sc) (14 : Int))
        refine cx_vi (c := 8) (a := me) (st := [.int (i32 (0)), rv (F (pg) (3 : Int))]) (as := [.int (i32 (0))]) rfl rfl rfl ho2.1 ho2.2 (by decide) rfl ⟨rfl, rfl, (by rw [jS_i, jS_r, jS_0]; exact Nat.le_of_ble_eq_true rfl)⟩ rfl (PPx_all X 18 (dd := d) (R := R) (m := mx) (tg := tgx) (ln := lnx) (F := Fx) (me := me) (lv := 0) (hd := by omega) (hC := hCx) (o_me := ho2.1) (t_me := ho2.2) (h_lv := by omega) (sc := sc) (pg := pg) (o_sc := ho3.1) (t_sc := ho3.2) (e_sc := ((show Fx (me) (1 : Int) = F (me) (1 : Int) from hMx _ _ o_me (own_z o_me) (by rw [t_me]; rfl)).trans e_sc)) (o_pg := ho4.1) (t_pg := ho4.2) (e_pg := ((show Fx (me) (0 : Int) = F (me) (0 : Int) from hMx _ _ o_me (own_z o_me) (by rw [t_me]; rfl)).trans e_pg)) (p_0 := by omega) (p_1 := by omega) (p_2 := by omega) (p_3 := by omega) (c_NP := cx_NP)) (fun o V_q hq => ?_)
        obtain ⟨m13, tg13, ln13, F14, r15, rfl, rfl, hx16, hC17, hM18, b19, p20, p21, p22, p23, p24, p25, p26, p27, p28, p29, p30, p31, c32, c33, -⟩ | ⟨m34, tg34, ln34, F34, x34, rfl, rfl, hx34, hC34, hM34, ho34, ht34, p35, p36, p37, p38, c39, c40, -⟩ := hq
        rotate_left
        ·
          have c41 : NM m m34 tg34 := NM_t cx_NM hx34 c40
          have lm42 := hx34.1
          refine Or.inr (Or.inr (Or.inl ⟨_, _, 136, rfl, cx_exc (c := 15) ho34 ht34 (by decide), rfl, ?_⟩))
          rw [← rv_x ho34]
          have hM43 := Fq_t (ln := ln) (ln1 := lnx) hMx hXx hM34 (by decide) (Or.inl rfl)
          have lm44 := hx34.1
          have ho45 : own m34 (me) ∧ tg34 (me) = 9 := Ex_o hx34 ⟨ho2.1, ho2.2⟩
          have ho46 : own m34 (sc) ∧ tg34 (sc) = 11 := Ex_o hx34 ⟨ho3.1, ho3.2⟩
          have ho47 : own m34 (pg) ∧ tg34 (pg) = 10 := Ex_o hx34 ⟨ho4.1, ho4.2⟩
          have hX48 := Ex_t hXx hx34
          refine jx_ld (pc_q := 137) (l_q := jSto1 L 1 (rv (((x34 : Nat) : Int)))) (st_q := []) rfl (js_rvn (by decide)) ?_
          obtain ⟨L49, eL49⟩ : ∃ q : jL, q = jSto1 L 1 (rv (((x34 : Nat) : Int))) := ⟨_, rfl⟩
          rw [← eL49]
          have g50 : jGet L49 0 = some (rv (me)) := eL49 ▸ jg_nr (by decide) gL_0
          have g51 : jGet L49 1 = some (rv (((x34 : Nat) : Int))) := eL49 ▸ jg_eq
          clear eL49
          refine jx_ld (pc_q := 138) (l_q := L49) (st_q := [rv (me)]) rfl (jl_rvn g50) ?_
          refine jx_ar (pc_q := 139) (st_q := .null :: [rv (me)]) rfl rfl rfl rfl ?_
          rw [← rv_0]
          refine cx_po (pc_q := 142) (c := 8) (q := 2) (qi := (2 : Int)) (z := 0) rfl rfl (by decide) (by decide) rfl rfl rfl (by decide) rfl ho45.1 ho45.2 rfl ?_
          obtain ⟨F52, eF52⟩ : ∃ q, q = uF F34 (me) (2 : Int) (0) := ⟨_, rfl⟩
          rw [← eF52]
          have hC53 : HC 0 m34 tg34 ln34 F52 := by rw [eF52]; exact HC_fr (c := 8) (q := 2) (by decide) hC34 ho45.2 (by decide) rfl (Or.inl rfl) ⟨fun w => absurd w (by decide), fun w => absurd w (by decide)⟩
          have hM54 : Fq 0 [(7, 15), (9, 2), (9, 3), (10, 0), (10, 1), (10, 2), (10, 5), (10, 7), (10, 8), (10, 9), (11, 8), (11, 12), (11, 13), (11, 14), (11, 15), (11, 16), (11, 17), (11, 18), (24, -5), (25, -5), (26, -5)] m tg F F52 := by rw [eF52]; exact Fq_p hM43 ho45.2 (fun w => (hX48.2 _ w).1) rfl
          have c55 : NP m34 tg34 F52 := by rw [eF52]; exact NP_u hC34 c39 ho45.2 (by omega)
          have tb56 := tz_b (F34 (sc) (15 : Int))
          refine jx_rt (v := none) rfl rfl rfl rfl rfl rfl ?_
          have q57 : F52 (sc) (7 : Int) = F (sc) (7 : Int) := ((show F52 (sc) (7 : Int) = F34 (sc) (7 : Int) from by rw [eF52]; exact uF_j (by decide)).trans ((show F34 (sc) (7 : Int) = Fx (sc) (7 : Int) from hM34 _ _ ho3.1 (own_z ho3.1) (by rw [ho3.2]; rfl)).trans (show Fx (sc) (7 : Int) = F (sc) (7 : Int) from hMx _ _ o_sc (own_z o_sc) (by rw [t_sc]; rfl))))
          have q58 : F52 (pg) (9 : Int) = F34 (pg) (9 : Int) := (show F52 (pg) (9 : Int) = F34 (pg) (9 : Int) from by rw [eF52]; exact uF_j (by decide))
          have q59 : F52 (pg) (3 : Int) = F (pg) (3 : Int) := ((show F52 (pg) (3 : Int) = F34 (pg) (3 : Int) from by rw [eF52]; exact uF_j (by decide)).trans ((show F34 (pg) (3 : Int) = Fx (pg) (3 : Int) from hM34 _ _ ho4.1 (own_z ho4.1) (by rw [ho4.2]; rfl)).trans (show Fx (pg) (3 : Int) = F (pg) (3 : Int) from hMx _ _ o_pg (own_z o_pg) (by rw [t_pg]; rfl))))
          have q60 : F52 (pg) (0 : Int) = F34 (pg) (0 : Int) := (show F52 (pg) (0 : Int) = F34 (pg) (0 : Int) from by rw [eF52]; exact uF_j (by decide))
          have q61 : F52 (pg) (9 : Int) = F34 (pg) (9 : Int) := q58
          exact ⟨m34, tg34, ln34, F52, rfl, rfl, hX48, hC53, hM54, by omega, by omega, by omega, (Or.inl (by omega)), c55, c41, trivial⟩
        have hM62 : Fq 0 [(7, 15), (9, 2), (9, 3), (10, 0), (10, 1), (10, 2), (10, 5), (10, 7), (10, 8), (10, 9), (11, 8), (11, 12), (11, 13), (11, 14), (11, 15), (11, 16), (11, 17), (11, 18), (24, -5), (25, -5), (26, -5)] m tg F F14 := Fq_t (ln := ln) (ln1 := lnx) hMx hXx hM18 (by decide) (Or.inl rfl)
        have lm63 := hx16.1
        have ho64 : own m13 (me) ∧ tg13 (me) = 9 := Ex_o hx16 ⟨ho2.1, ho2.2⟩
        have ho65 : own m13 (F (pg) (3 : Int)) ∧ tg13 (F (pg) (3 : Int)) = 24 := Ex_o hx16 ⟨y9.1, y9.2.1⟩
        have ho66 : own m13 (sc) ∧ tg13 (sc) = 11 := Ex_o hx16 ⟨ho3.1, ho3.2⟩
        have ho67 : own m13 (pg) ∧ tg13 (pg) = 10 := Ex_o hx16 ⟨ho4.1, ho4.2⟩
        have ln68 : ln13 (F (pg) (3 : Int)) = 6 := (hx16.2 _ y9.1).2.trans ly9
        have hX69 := Ex_t hXx hx16
        have c70 : NM m m13 tg13 := NM_t cx_NM hx16 c33
        have c71 : CR m13 tg13 F14 (F pg (3 : Int)) (0) := CR_x iv_9 hx16 hM18 rfl
        refine Or.inr (Or.inl ⟨_, rfl, ?_⟩)
        have b72 := HC_l hC17 ho65.1 ho65.2 (by decide)
        refine cx_aas (pc_q := 119) (c := 7) (z := 0) (y := r15) rfl rfl ho65.1 (by rw [ho65.2]; decide) (by omega) (by omega) (by omega) (fun hz => (Or.inr ⟨b19.1, b19.2⟩).resolve_left hz) (by decide) (by rw [ho65.2]; rfl) ?_
        obtain ⟨F73, eF73⟩ : ∃ q, q = uF F14 (F (pg) (3 : Int)) (0 : Int) (r15) := ⟨_, rfl⟩
        rw [← eF73]
        have hC74 : HC 0 m13 tg13 ln13 F73 := by rw [eF73]; exact HC_pa hC17 ho65.1 ho65.2 (by decide) (by omega) (Or.inr ⟨b19.1, b19.2⟩)
        have hM75 : Fq 0 [(7, 15), (9, 2), (9, 3), (10, 0), (10, 1), (10, 2), (10, 5), (10, 7), (10, 8), (10, 9), (11, 8), (11, 12), (11, 13), (11, 14), (11, 15), (11, 16), (11, 17), (11, 18), (24, -5), (25, -5), (26, -5)] m tg F F73 := by rw [eF73]; exact Fq_p hM62 ho65.2 (fun w => (hX69.2 _ w).1) (inL_a rfl (by omega) rfl)
        have c76 : NP m13 tg13 F73 := by rw [eF73]; exact NP_rt hC17 c32 ho65.2 (show F14 (F (pg) (3 : Int)) (-1) = 0 by have z := HC_n (c := 9) (q := 3) hC17 ho67.1 ho67.2 (own_z ho67.1) (by decide) rfl; rw [show F14 (pg) ((3 : Nat) : Int) = F (pg) (3 : Int) from ((show F14 (pg) (3 : Int) = Fx (pg) (3 : Int) from hM18 _ _ ho4.1 (own_z ho4.1) (by rw [ho4.2]; rfl)).trans (show Fx (pg) (3 : Int) = F (pg) (3 : Int) from hMx _ _ o_pg (own_z o_pg) (by rw [t_pg]; rfl)))] at z; exact z.2.2.2 (by decide)) (by omega) (SN_i b19.1 b19.2 (by omega) (by omega) (by omega))
        have c77 : CR m13 tg13 F73 (F pg (3 : Int)) ((0) + 1) := by rw [eF73]; exact CR_p c71
        have tb78 := tz_b (F14 (sc) (15 : Int))
        refine jx_ld (pc_q := 120) (l_q := L) (st_q := [rv (me)]) rfl (jl_rvn gL_0) ?_
        refine cx_gr (pc_q := 123) (c := 8) (q := 1) (v := sc) rfl rfl (by decide) (by decide) rfl rfl ho64.1 ho64.2 (((show F73 (me) (1 : Int) = F14 (me) (1 : Int) from by rw [eF73]; exact uF_j (by decide)).trans ((show F14 (me) (1 : Int) = Fx (me) (1 : Int) from hM18 _ _ ho2.1 (own_z ho2.1) (by rw [ho2.2]; rfl)).trans (show Fx (me) (1 : Int) = F (me) (1 : Int) from hMx _ _ o_me (own_z o_me) (by rw [t_me]; rfl)))).trans e_sc) ?_
        refine cx_gi (pc_q := 126) (c := 10) (q := 12) (v := F14 (sc) (12 : Int)) rfl rfl (by decide) (by decide) (Or.inr rfl) rfl ho66.1 ho66.2 (show F73 (sc) (12 : Int) = F14 (sc) (12 : Int) from by rw [eF73]; exact uF_j (by decide)) ?_
        have b79 : (0 : Int) ≤ F14 (sc) (12 : Int) ∧ F14 (sc) (12 : Int) ≤ 1 := by have z := HC_i (c := 10) (q := 12) hC74 ho66.1 ho66.2 (by decide) rfl; rw [show F73 (sc) ((12 : Nat) : Int) = F14 (sc) (12 : Int) from (show F73 (sc) (12 : Int) = F14 (sc) (12 : Int) from by rw [eF73]; exact uF_j (by decide))] at z; exact z
        refine jx_if_ne (pc_q := 129) (tg := 133) rfl rfl rfl (by omega) (by omega) (fun h80 => ?_) (fun h80 => ?_)
        · have _q := h80
          refine jx_go (tg := 142) rfl rfl ?_
          have tb81 := tz_b (F14 (sc) (15 : Int))
          refine jx_rt (v := none) rfl rfl rfl rfl rfl rfl ?_
          have q82 : F73 (sc) (7 : Int) = F (sc) (7 : Int) := ((show F73 (sc) (7 : Int) = F14 (sc) (7 : Int) from by rw [eF73]; exact uF_j (by decide)).trans ((show F14 (sc) (7 : Int) = Fx (sc) (7 : Int) from hM18 _ _ ho3.1 (own_z ho3.1) (by rw [ho3.2]; rfl)).trans (show Fx (sc) (7 : Int) = F (sc) (7 : Int) from hMx _ _ o_sc (own_z o_sc) (by rw [t_sc]; rfl))))
          have q83 : F73 (pg) (9 : Int) = F14 (pg) (9 : Int) := (show F73 (pg) (9 : Int) = F14 (pg) (9 : Int) from by rw [eF73]; exact uF_j (by decide))
          have q84 : F73 (pg) (3 : Int) = F (pg) (3 : Int) := ((show F73 (pg) (3 : Int) = F14 (pg) (3 : Int) from by rw [eF73]; exact uF_j (by decide)).trans ((show F14 (pg) (3 : Int) = Fx (pg) (3 : Int) from hM18 _ _ ho4.1 (own_z ho4.1) (by rw [ho4.2]; rfl)).trans (show Fx (pg) (3 : Int) = F (pg) (3 : Int) from hMx _ _ o_pg (own_z o_pg) (by rw [t_pg]; rfl))))
          have q85 : F73 (pg) (0 : Int) = F14 (pg) (0 : Int) := (show F73 (pg) (0 : Int) = F14 (pg) (0 : Int) from by rw [eF73]; exact uF_a (fun w => by have q1 := ho67.2; have q2 := ho65.2; rw [w, q2] at q1; exact absurd q1 (by decide)))
          have q86 : F73 (pg) (9 : Int) = F14 (pg) (9 : Int) := q83
          exact ⟨m13, tg13, ln13, F73, rfl, rfl, hX69, hC74, hM75, by omega, by omega, by omega, (Or.inr (by have z := c77.2.2; omega)), c76, c70, trivial⟩
        · have _q := h80
          refine jx_ld (pc_q := 130) (l_q := L) (st_q := [rv (me)]) rfl (jl_rvn gL_0) ?_
          have q87 : F73 (sc) (8 : Int) = F14 (sc) (8 : Int) := (show F73 (sc) (8 : Int) = F14 (sc) (8 : Int) from by rw [eF73]; exact uF_j (by decide))
          have q88 : F73 (sc) (7 : Int) = F (sc) (7 : Int) := ((show F73 (sc) (7 : Int) = F14 (sc) (7 : Int) from by rw [eF73]; exact uF_j (by decide)).trans ((show F14 (sc) (7 : Int) = Fx (sc) (7 : Int) from hM18 _ _ ho3.1 (own_z ho3.1) (by rw [ho3.2]; rfl)).trans (show Fx (sc) (7 : Int) = F (sc) (7 : Int) from hMx _ _ o_sc (own_z o_sc) (by rw [t_sc]; rfl))))
          refine cx_vi (c := 8) (a := me) (st := []) (as := []) rfl rfl rfl ho64.1 ho64.2 (by decide) rfl ⟨rfl, rfl, (Nat.le_of_ble_eq_true rfl)⟩ rfl (k_LParser_form (dd := d) (R := R) (m := m13) (tg := tg13) (ln := ln13) (F := F73) (me := me) (hd := by omega) (hC := hC74) (o_me := ho64.1) (t_me := ho64.2) (sc := sc) (pg := pg) (o_sc := ho66.1) (t_sc := ho66.2) (e_sc := (((show F73 (me) (1 : Int) = F14 (me) (1 : Int) from by rw [eF73]; exact uF_j (by decide)).trans ((show F14 (me) (1 : Int) = Fx (me) (1 : Int) from hM18 _ _ ho2.1 (own_z ho2.1) (by rw [ho2.2]; rfl)).trans (show Fx (me) (1 : Int) = F (me) (1 : Int) from hMx _ _ o_me (own_z o_me) (by rw [t_me]; rfl)))).trans e_sc)) (o_pg := ho67.1) (t_pg := ho67.2) (e_pg := (((show F73 (me) (0 : Int) = F14 (me) (0 : Int) from by rw [eF73]; exact uF_a (fun w => by have q1 := ho64.2; have q2 := ho65.2; rw [w, q2] at q1; exact absurd q1 (by decide))).trans ((show F14 (me) (0 : Int) = Fx (me) (0 : Int) from hM18 _ _ ho2.1 (own_z ho2.1) (by rw [ho2.2]; rfl)).trans (show Fx (me) (0 : Int) = F (me) (0 : Int) from hMx _ _ o_me (own_z o_me) (by rw [t_me]; rfl)))).trans e_pg)) (p_0 := by omega) (c_NP := c76)) (fun o V_q hq => ?_)
          obtain ⟨m89, tg89, ln89, F90, rfl, rfl, hx91, hC92, hM93, p94, c95, c96, -⟩ | ⟨m97, tg97, ln97, F97, x97, rfl, rfl, hx97, hC97, hM97, ho97, ht97, p98, p99, p100, p101, c102, c103, -⟩ := hq
          rotate_left
          ·
            have c104 : NM m m97 tg97 := NM_t c70 hx97 c103
            have lm105 := hx97.1
            refine Or.inr (Or.inr (Or.inl ⟨_, _, 136, rfl, cx_exc (c := 15) ho97 ht97 (by decide), rfl, ?_⟩))
            rw [← rv_x ho97]
            have hM106 := Fq_t (ln := ln) (ln1 := ln13) hM75 hX69 hM97 (by decide) (Or.inl rfl)
            have lm107 := hx97.1
            have ho108 : own m97 (me) ∧ tg97 (me) = 9 := Ex_o hx97 ⟨ho64.1, ho64.2⟩
            have ho109 : own m97 (sc) ∧ tg97 (sc) = 11 := Ex_o hx97 ⟨ho66.1, ho66.2⟩
            have ho110 : own m97 (pg) ∧ tg97 (pg) = 10 := Ex_o hx97 ⟨ho67.1, ho67.2⟩
            have hX111 := Ex_t hX69 hx97
            refine jx_ld (pc_q := 137) (l_q := jSto1 L 1 (rv (((x97 : Nat) : Int)))) (st_q := []) rfl (js_rvn (by decide)) ?_
            obtain ⟨L112, eL112⟩ : ∃ q : jL, q = jSto1 L 1 (rv (((x97 : Nat) : Int))) := ⟨_, rfl⟩
            rw [← eL112]
            have g113 : jGet L112 0 = some (rv (me)) := eL112 ▸ jg_nr (by decide) gL_0
            have g114 : jGet L112 1 = some (rv (((x97 : Nat) : Int))) := eL112 ▸ jg_eq
            clear eL112
            refine jx_ld (pc_q := 138) (l_q := L112) (st_q := [rv (me)]) rfl (jl_rvn g113) ?_
            refine jx_ar (pc_q := 139) (st_q := .null :: [rv (me)]) rfl rfl rfl rfl ?_
            rw [← rv_0]
            refine cx_po (pc_q := 142) (c := 8) (q := 2) (qi := (2 : Int)) (z := 0) rfl rfl (by decide) (by decide) rfl rfl rfl (by decide) rfl ho108.1 ho108.2 rfl ?_
            obtain ⟨F115, eF115⟩ : ∃ q, q = uF F97 (me) (2 : Int) (0) := ⟨_, rfl⟩
            rw [← eF115]
            have hC116 : HC 0 m97 tg97 ln97 F115 := by rw [eF115]; exact HC_fr (c := 8) (q := 2) (by decide) hC97 ho108.2 (by decide) rfl (Or.inl rfl) ⟨fun w => absurd w (by decide), fun w => absurd w (by decide)⟩
            have hM117 : Fq 0 [(7, 15), (9, 2), (9, 3), (10, 0), (10, 1), (10, 2), (10, 5), (10, 7), (10, 8), (10, 9), (11, 8), (11, 12), (11, 13), (11, 14), (11, 15), (11, 16), (11, 17), (11, 18), (24, -5), (25, -5), (26, -5)] m tg F F115 := by rw [eF115]; exact Fq_p hM106 ho108.2 (fun w => (hX111.2 _ w).1) rfl
            have c118 : NP m97 tg97 F115 := by rw [eF115]; exact NP_u hC97 c102 ho108.2 (by omega)
            have tb119 := tz_b (F14 (sc) (15 : Int))
            refine jx_rt (v := none) rfl rfl rfl rfl rfl rfl ?_
            have q120 : F115 (sc) (7 : Int) = F (sc) (7 : Int) := ((show F115 (sc) (7 : Int) = F97 (sc) (7 : Int) from by rw [eF115]; exact uF_j (by decide)).trans ((show F97 (sc) (7 : Int) = F73 (sc) (7 : Int) from hM97 _ _ ho66.1 (own_z ho66.1) (by rw [ho66.2]; rfl)).trans q88))
            have q121 : F115 (pg) (9 : Int) = F14 (pg) (9 : Int) := ((show F115 (pg) (9 : Int) = F97 (pg) (9 : Int) from by rw [eF115]; exact uF_j (by decide)).trans ((show F97 (pg) (9 : Int) = F73 (pg) (9 : Int) from hM97 _ _ ho67.1 (own_z ho67.1) (by rw [ho67.2]; rfl)).trans (show F73 (pg) (9 : Int) = F14 (pg) (9 : Int) from by rw [eF73]; exact uF_j (by decide))))
            have q122 : F115 (pg) (3 : Int) = F (pg) (3 : Int) := ((show F115 (pg) (3 : Int) = F97 (pg) (3 : Int) from by rw [eF115]; exact uF_j (by decide)).trans ((show F97 (pg) (3 : Int) = F73 (pg) (3 : Int) from hM97 _ _ ho67.1 (own_z ho67.1) (by rw [ho67.2]; rfl)).trans ((show F73 (pg) (3 : Int) = F14 (pg) (3 : Int) from by rw [eF73]; exact uF_j (by decide)).trans ((show F14 (pg) (3 : Int) = Fx (pg) (3 : Int) from hM18 _ _ ho4.1 (own_z ho4.1) (by rw [ho4.2]; rfl)).trans (show Fx (pg) (3 : Int) = F (pg) (3 : Int) from hMx _ _ o_pg (own_z o_pg) (by rw [t_pg]; rfl))))))
            have q123 : F115 (pg) (0 : Int) = F97 (pg) (0 : Int) := (show F115 (pg) (0 : Int) = F97 (pg) (0 : Int) from by rw [eF115]; exact uF_j (by decide))
            have q124 : F115 (pg) (9 : Int) = F14 (pg) (9 : Int) := q121
            exact ⟨m97, tg97, ln97, F115, rfl, rfl, hX111, hC116, hM117, by omega, by omega, by omega, (Or.inl (by omega)), c118, c104, trivial⟩
          exact p94.elim
      · have _q := h8
        have t125 : lz (Fx (sc) (14 : Int)) = 1 := lz_p (by omega)
        refine jx_ld (pc_q := 75) (l_q := L) (st_q := [rv (me)]) rfl (jl_rvn gL_0) ?_
        refine cx_gr (pc_q := 78) (c := 8) (q := 1) (v := sc) rfl rfl (by decide) (by decide) rfl rfl ho2.1 ho2.2 ((show Fx (me) (1 : Int) = F (me) (1 : Int) from hMx _ _ o_me (own_z o_me) (by rw [t_me]; rfl)).trans e_sc) ?_
        refine cx_gi (pc_q := 81) (c := 10) (q := 15) (v := Fx (sc) (15 : Int)) rfl rfl (by decide) (by decide) (Or.inl rfl) rfl ho3.1 ho3.2 rfl ?_
        have b126 : (-2147483648 : Int) ≤ Fx (sc) (15 : Int) ∧ Fx (sc) (15 : Int) ≤ 2147483647 := by have z := HC_i (c := 10) (q := 15) hCx ho3.1 ho3.2 (by decide) rfl; rw [show Fx (sc) ((15 : Nat) : Int) = Fx (sc) (15 : Int) from rfl] at z; exact z
        refine jx_ar (pc_q := 83) (st_q := [.int (i32 (30)), .int (i32 (Fx (sc) (15 : Int)))]) rfl rfl rfl rfl ?_
        refine jx_icmp_eq (pc_q := 86) (tg := 98) rfl rfl rfl (by omega) (by omega) (by decide) (by decide) (fun h127 => ?_) (fun h127 => ?_)
        · have _q := h127
          have t128 : tz (Fx (sc) (15 : Int)) = 1 := tz_p (by omega)
          refine jx_ld (pc_q := 99) (l_q := L) (st_q := [rv (me)]) rfl (jl_rvn gL_0) ?_
          have q129 := tz_b (Fx (sc) (15 : Int))
          have q130 : Fx (sc) (7 : Int) = F (sc) (7 : Int) := (show Fx (sc) (7 : Int) = F (sc) (7 : Int) from hMx _ _ o_sc (own_z o_sc) (by rw [t_sc]; rfl))
          have q131 := lz_b (Fx (sc) (14 : Int))
          refine cx_vi (c := 8) (a := me) (st := []) (as := []) rfl rfl rfl ho2.1 ho2.2 (by decide) rfl ⟨rfl, rfl, (Nat.le_of_ble_eq_true rfl)⟩ rfl (k_LParser_readPlaced (dd := d) (R := R) (m := mx) (tg := tgx) (ln := lnx) (F := Fx) (me := me) (hd := by omega) (hC := hCx) (o_me := ho2.1) (t_me := ho2.2) (sc := sc) (pg := pg) (o_sc := ho3.1) (t_sc := ho3.2) (e_sc := ((show Fx (me) (1 : Int) = F (me) (1 : Int) from hMx _ _ o_me (own_z o_me) (by rw [t_me]; rfl)).trans e_sc)) (o_pg := ho4.1) (t_pg := ho4.2) (e_pg := ((show Fx (me) (0 : Int) = F (me) (0 : Int) from hMx _ _ o_me (own_z o_me) (by rw [t_me]; rfl)).trans e_pg)) (p_0 := by omega) (p_1 := by omega) (c_NP := cx_NP) (cr := 0) (c_CR := CR_e iv_9 (show Fx (pg) (3 : Int) = F (pg) (3 : Int) from hMx _ _ o_pg (own_z o_pg) (by rw [t_pg]; rfl)))) (fun o V_q hq => ?_)
          obtain ⟨m132, tg132, ln132, F133, rfl, rfl, hx134, hC135, hM136, p137, p138, p139, p140, p141, p142, c143, c144, c145, -⟩ | ⟨m146, tg146, ln146, F146, x146, rfl, rfl, hx146, hC146, hM146, ho146, ht146, p147, p148, p149, p150, c151, c152, -⟩ := hq
          rotate_left
          ·
            have c153 : NM m m146 tg146 := NM_t cx_NM hx146 c152
            have lm154 := hx146.1
            refine Or.inr (Or.inr (Or.inl ⟨_, _, 136, rfl, cx_exc (c := 15) ho146 ht146 (by decide), rfl, ?_⟩))
            rw [← rv_x ho146]
            have hM155 := Fq_t (ln := ln) (ln1 := lnx) hMx hXx hM146 (by decide) (Or.inl rfl)
            have lm156 := hx146.1
            have ho157 : own m146 (me) ∧ tg146 (me) = 9 := Ex_o hx146 ⟨ho2.1, ho2.2⟩
            have ho158 : own m146 (sc) ∧ tg146 (sc) = 11 := Ex_o hx146 ⟨ho3.1, ho3.2⟩
            have ho159 : own m146 (pg) ∧ tg146 (pg) = 10 := Ex_o hx146 ⟨ho4.1, ho4.2⟩
            have hX160 := Ex_t hXx hx146
            refine jx_ld (pc_q := 137) (l_q := jSto1 L 1 (rv (((x146 : Nat) : Int)))) (st_q := []) rfl (js_rvn (by decide)) ?_
            obtain ⟨L161, eL161⟩ : ∃ q : jL, q = jSto1 L 1 (rv (((x146 : Nat) : Int))) := ⟨_, rfl⟩
            rw [← eL161]
            have g162 : jGet L161 0 = some (rv (me)) := eL161 ▸ jg_nr (by decide) gL_0
            have g163 : jGet L161 1 = some (rv (((x146 : Nat) : Int))) := eL161 ▸ jg_eq
            clear eL161
            refine jx_ld (pc_q := 138) (l_q := L161) (st_q := [rv (me)]) rfl (jl_rvn g162) ?_
            refine jx_ar (pc_q := 139) (st_q := .null :: [rv (me)]) rfl rfl rfl rfl ?_
            rw [← rv_0]
            refine cx_po (pc_q := 142) (c := 8) (q := 2) (qi := (2 : Int)) (z := 0) rfl rfl (by decide) (by decide) rfl rfl rfl (by decide) rfl ho157.1 ho157.2 rfl ?_
            obtain ⟨F164, eF164⟩ : ∃ q, q = uF F146 (me) (2 : Int) (0) := ⟨_, rfl⟩
            rw [← eF164]
            have hC165 : HC 0 m146 tg146 ln146 F164 := by rw [eF164]; exact HC_fr (c := 8) (q := 2) (by decide) hC146 ho157.2 (by decide) rfl (Or.inl rfl) ⟨fun w => absurd w (by decide), fun w => absurd w (by decide)⟩
            have hM166 : Fq 0 [(7, 15), (9, 2), (9, 3), (10, 0), (10, 1), (10, 2), (10, 5), (10, 7), (10, 8), (10, 9), (11, 8), (11, 12), (11, 13), (11, 14), (11, 15), (11, 16), (11, 17), (11, 18), (24, -5), (25, -5), (26, -5)] m tg F F164 := by rw [eF164]; exact Fq_p hM155 ho157.2 (fun w => (hX160.2 _ w).1) rfl
            have c167 : NP m146 tg146 F164 := by rw [eF164]; exact NP_u hC146 c151 ho157.2 (by omega)
            have tb168 := tz_b (F146 (sc) (15 : Int))
            refine jx_rt (v := none) rfl rfl rfl rfl rfl rfl ?_
            have q169 : F164 (sc) (7 : Int) = F (sc) (7 : Int) := ((show F164 (sc) (7 : Int) = F146 (sc) (7 : Int) from by rw [eF164]; exact uF_j (by decide)).trans ((show F146 (sc) (7 : Int) = Fx (sc) (7 : Int) from hM146 _ _ ho3.1 (own_z ho3.1) (by rw [ho3.2]; rfl)).trans (show Fx (sc) (7 : Int) = F (sc) (7 : Int) from hMx _ _ o_sc (own_z o_sc) (by rw [t_sc]; rfl))))
            have q170 : F164 (pg) (9 : Int) = F146 (pg) (9 : Int) := (show F164 (pg) (9 : Int) = F146 (pg) (9 : Int) from by rw [eF164]; exact uF_j (by decide))
            have q171 : F164 (pg) (3 : Int) = F (pg) (3 : Int) := ((show F164 (pg) (3 : Int) = F146 (pg) (3 : Int) from by rw [eF164]; exact uF_j (by decide)).trans ((show F146 (pg) (3 : Int) = Fx (pg) (3 : Int) from hM146 _ _ ho4.1 (own_z ho4.1) (by rw [ho4.2]; rfl)).trans (show Fx (pg) (3 : Int) = F (pg) (3 : Int) from hMx _ _ o_pg (own_z o_pg) (by rw [t_pg]; rfl))))
            have q172 : F164 (pg) (0 : Int) = F146 (pg) (0 : Int) := (show F164 (pg) (0 : Int) = F146 (pg) (0 : Int) from by rw [eF164]; exact uF_j (by decide))
            have q173 : F164 (pg) (9 : Int) = F146 (pg) (9 : Int) := q170
            exact ⟨m146, tg146, ln146, F164, rfl, rfl, hX160, hC165, hM166, by omega, by omega, by omega, (Or.inl (by omega)), c167, c153, trivial⟩
          have hM174 : Fq 0 [(7, 15), (9, 2), (9, 3), (10, 0), (10, 1), (10, 2), (10, 5), (10, 7), (10, 8), (10, 9), (11, 8), (11, 12), (11, 13), (11, 14), (11, 15), (11, 16), (11, 17), (11, 18), (24, -5), (25, -5), (26, -5)] m tg F F133 := Fq_t (ln := ln) (ln1 := lnx) hMx hXx hM136 (by decide) (Or.inl rfl)
          have lm175 := hx134.1
          have ho176 : own m132 (me) ∧ tg132 (me) = 9 := Ex_o hx134 ⟨ho2.1, ho2.2⟩
          have ho177 : own m132 (sc) ∧ tg132 (sc) = 11 := Ex_o hx134 ⟨ho3.1, ho3.2⟩
          have ho178 : own m132 (pg) ∧ tg132 (pg) = 10 := Ex_o hx134 ⟨ho4.1, ho4.2⟩
          have hX179 := Ex_t hXx hx134
          have c180 : NM m m132 tg132 := NM_t cx_NM hx134 c144
          have c181 : CR m132 tg132 F133 (F pg (3 : Int)) ((0) + (F133 sc (8 : Int) - Fx sc (8 : Int) - 3) / 4) := CR_e2 c145 (show Fx (pg) (3 : Int) = F (pg) (3 : Int) from hMx _ _ o_pg (own_z o_pg) (by rw [t_pg]; rfl))
          refine Or.inl ⟨rfl, ?_⟩
          refine jx_go (tg := 119) rfl rfl ?_
          have tb182 := tz_b (F133 (sc) (15 : Int))
          refine jx_ld (pc_q := 120) (l_q := L) (st_q := [rv (me)]) rfl (jl_rvn gL_0) ?_
          refine cx_gr (pc_q := 123) (c := 8) (q := 1) (v := sc) rfl rfl (by decide) (by decide) rfl rfl ho176.1 ho176.2 (((show F133 (me) (1 : Int) = Fx (me) (1 : Int) from hM136 _ _ ho2.1 (own_z ho2.1) (by rw [ho2.2]; rfl)).trans (show Fx (me) (1 : Int) = F (me) (1 : Int) from hMx _ _ o_me (own_z o_me) (by rw [t_me]; rfl))).trans e_sc) ?_
          refine cx_gi (pc_q := 126) (c := 10) (q := 12) (v := F133 (sc) (12 : Int)) rfl rfl (by decide) (by decide) (Or.inr rfl) rfl ho177.1 ho177.2 rfl ?_
          have b183 : (0 : Int) ≤ F133 (sc) (12 : Int) ∧ F133 (sc) (12 : Int) ≤ 1 := by have z := HC_i (c := 10) (q := 12) hC135 ho177.1 ho177.2 (by decide) rfl; rw [show F133 (sc) ((12 : Nat) : Int) = F133 (sc) (12 : Int) from rfl] at z; exact z
          refine jx_if_ne (pc_q := 129) (tg := 133) rfl rfl rfl (by omega) (by omega) (fun h184 => ?_) (fun h184 => ?_)
          · have _q := h184
            refine jx_go (tg := 142) rfl rfl ?_
            have tb185 := tz_b (F133 (sc) (15 : Int))
            refine jx_rt (v := none) rfl rfl rfl rfl rfl rfl ?_
            have q186 : F133 (sc) (7 : Int) = F (sc) (7 : Int) := ((show F133 (sc) (7 : Int) = Fx (sc) (7 : Int) from hM136 _ _ ho3.1 (own_z ho3.1) (by rw [ho3.2]; rfl)).trans (show Fx (sc) (7 : Int) = F (sc) (7 : Int) from hMx _ _ o_sc (own_z o_sc) (by rw [t_sc]; rfl)))
            have q187 : F133 (pg) (3 : Int) = F (pg) (3 : Int) := ((show F133 (pg) (3 : Int) = Fx (pg) (3 : Int) from hM136 _ _ ho4.1 (own_z ho4.1) (by rw [ho4.2]; rfl)).trans (show Fx (pg) (3 : Int) = F (pg) (3 : Int) from hMx _ _ o_pg (own_z o_pg) (by rw [t_pg]; rfl)))
            exact ⟨m132, tg132, ln132, F133, rfl, rfl, hX179, hC135, hM174, by omega, by omega, by omega, (Or.inr (by have z := c181.2.2; omega)), c143, c180, trivial⟩
          · have _q := h184
            refine jx_ld (pc_q := 130) (l_q := L) (st_q := [rv (me)]) rfl (jl_rvn gL_0) ?_
            have q188 : F133 (sc) (7 : Int) = F (sc) (7 : Int) := ((show F133 (sc) (7 : Int) = Fx (sc) (7 : Int) from hM136 _ _ ho3.1 (own_z ho3.1) (by rw [ho3.2]; rfl)).trans (show Fx (sc) (7 : Int) = F (sc) (7 : Int) from hMx _ _ o_sc (own_z o_sc) (by rw [t_sc]; rfl)))
            refine cx_vi (c := 8) (a := me) (st := []) (as := []) rfl rfl rfl ho176.1 ho176.2 (by decide) rfl ⟨rfl, rfl, (Nat.le_of_ble_eq_true rfl)⟩ rfl (k_LParser_form (dd := d) (R := R) (m := m132) (tg := tg132) (ln := ln132) (F := F133) (me := me) (hd := by omega) (hC := hC135) (o_me := ho176.1) (t_me := ho176.2) (sc := sc) (pg := pg) (o_sc := ho177.1) (t_sc := ho177.2) (e_sc := (((show F133 (me) (1 : Int) = Fx (me) (1 : Int) from hM136 _ _ ho2.1 (own_z ho2.1) (by rw [ho2.2]; rfl)).trans (show Fx (me) (1 : Int) = F (me) (1 : Int) from hMx _ _ o_me (own_z o_me) (by rw [t_me]; rfl))).trans e_sc)) (o_pg := ho178.1) (t_pg := ho178.2) (e_pg := (((show F133 (me) (0 : Int) = Fx (me) (0 : Int) from hM136 _ _ ho2.1 (own_z ho2.1) (by rw [ho2.2]; rfl)).trans (show Fx (me) (0 : Int) = F (me) (0 : Int) from hMx _ _ o_me (own_z o_me) (by rw [t_me]; rfl))).trans e_pg)) (p_0 := by omega) (c_NP := c143)) (fun o V_q hq => ?_)
            obtain ⟨m189, tg189, ln189, F190, rfl, rfl, hx191, hC192, hM193, p194, c195, c196, -⟩ | ⟨m197, tg197, ln197, F197, x197, rfl, rfl, hx197, hC197, hM197, ho197, ht197, p198, p199, p200, p201, c202, c203, -⟩ := hq
            rotate_left
            ·
              have c204 : NM m m197 tg197 := NM_t c180 hx197 c203
              have lm205 := hx197.1
              refine Or.inr (Or.inr (Or.inl ⟨_, _, 136, rfl, cx_exc (c := 15) ho197 ht197 (by decide), rfl, ?_⟩))
              rw [← rv_x ho197]
              have hM206 := Fq_t (ln := ln) (ln1 := ln132) hM174 hX179 hM197 (by decide) (Or.inl rfl)
              have lm207 := hx197.1
              have ho208 : own m197 (me) ∧ tg197 (me) = 9 := Ex_o hx197 ⟨ho176.1, ho176.2⟩
              have ho209 : own m197 (sc) ∧ tg197 (sc) = 11 := Ex_o hx197 ⟨ho177.1, ho177.2⟩
              have ho210 : own m197 (pg) ∧ tg197 (pg) = 10 := Ex_o hx197 ⟨ho178.1, ho178.2⟩
              have hX211 := Ex_t hX179 hx197
              refine jx_ld (pc_q := 137) (l_q := jSto1 L 1 (rv (((x197 : Nat) : Int)))) (st_q := []) rfl (js_rvn (by decide)) ?_
              obtain ⟨L212, eL212⟩ : ∃ q : jL, q = jSto1 L 1 (rv (((x197 : Nat) : Int))) := ⟨_, rfl⟩
              rw [← eL212]
              have g213 : jGet L212 0 = some (rv (me)) := eL212 ▸ jg_nr (by decide) gL_0
              have g214 : jGet L212 1 = some (rv (((x197 : Nat) : Int))) := eL212 ▸ jg_eq
              clear eL212
              refine jx_ld (pc_q := 138) (l_q := L212) (st_q := [rv (me)]) rfl (jl_rvn g213) ?_
              refine jx_ar (pc_q := 139) (st_q := .null :: [rv (me)]) rfl rfl rfl rfl ?_
              rw [← rv_0]
              refine cx_po (pc_q := 142) (c := 8) (q := 2) (qi := (2 : Int)) (z := 0) rfl rfl (by decide) (by decide) rfl rfl rfl (by decide) rfl ho208.1 ho208.2 rfl ?_
              obtain ⟨F215, eF215⟩ : ∃ q, q = uF F197 (me) (2 : Int) (0) := ⟨_, rfl⟩
              rw [← eF215]
              have hC216 : HC 0 m197 tg197 ln197 F215 := by rw [eF215]; exact HC_fr (c := 8) (q := 2) (by decide) hC197 ho208.2 (by decide) rfl (Or.inl rfl) ⟨fun w => absurd w (by decide), fun w => absurd w (by decide)⟩
              have hM217 : Fq 0 [(7, 15), (9, 2), (9, 3), (10, 0), (10, 1), (10, 2), (10, 5), (10, 7), (10, 8), (10, 9), (11, 8), (11, 12), (11, 13), (11, 14), (11, 15), (11, 16), (11, 17), (11, 18), (24, -5), (25, -5), (26, -5)] m tg F F215 := by rw [eF215]; exact Fq_p hM206 ho208.2 (fun w => (hX211.2 _ w).1) rfl
              have c218 : NP m197 tg197 F215 := by rw [eF215]; exact NP_u hC197 c202 ho208.2 (by omega)
              have tb219 := tz_b (F133 (sc) (15 : Int))
              refine jx_rt (v := none) rfl rfl rfl rfl rfl rfl ?_
              have q220 : F215 (sc) (7 : Int) = F (sc) (7 : Int) := ((show F215 (sc) (7 : Int) = F197 (sc) (7 : Int) from by rw [eF215]; exact uF_j (by decide)).trans ((show F197 (sc) (7 : Int) = F133 (sc) (7 : Int) from hM197 _ _ ho177.1 (own_z ho177.1) (by rw [ho177.2]; rfl)).trans q188))
              have q221 : F215 (pg) (9 : Int) = F133 (pg) (9 : Int) := ((show F215 (pg) (9 : Int) = F197 (pg) (9 : Int) from by rw [eF215]; exact uF_j (by decide)).trans (show F197 (pg) (9 : Int) = F133 (pg) (9 : Int) from hM197 _ _ ho178.1 (own_z ho178.1) (by rw [ho178.2]; rfl)))
              have q222 : F215 (pg) (3 : Int) = F (pg) (3 : Int) := ((show F215 (pg) (3 : Int) = F197 (pg) (3 : Int) from by rw [eF215]; exact uF_j (by decide)).trans ((show F197 (pg) (3 : Int) = F133 (pg) (3 : Int) from hM197 _ _ ho178.1 (own_z ho178.1) (by rw [ho178.2]; rfl)).trans ((show F133 (pg) (3 : Int) = Fx (pg) (3 : Int) from hM136 _ _ ho4.1 (own_z ho4.1) (by rw [ho4.2]; rfl)).trans (show Fx (pg) (3 : Int) = F (pg) (3 : Int) from hMx _ _ o_pg (own_z o_pg) (by rw [t_pg]; rfl)))))
              have q223 : F215 (pg) (0 : Int) = F197 (pg) (0 : Int) := (show F215 (pg) (0 : Int) = F197 (pg) (0 : Int) from by rw [eF215]; exact uF_j (by decide))
              have q224 : F215 (pg) (9 : Int) = F133 (pg) (9 : Int) := q221
              exact ⟨m197, tg197, ln197, F215, rfl, rfl, hX211, hC216, hM217, by omega, by omega, by omega, (Or.inl (by omega)), c218, c204, trivial⟩
            exact p194.elim
        · have _q := h127
          refine jx_ld (pc_q := 87) (l_q := L) (st_q := [rv (me)]) rfl (jl_rvn gL_0) ?_
          refine cx_gr (pc_q := 90) (c := 8) (q := 1) (v := sc) rfl rfl (by decide) (by decide) rfl rfl ho2.1 ho2.2 ((show Fx (me) (1 : Int) = F (me) (1 : Int) from hMx _ _ o_me (own_z o_me) (by rw [t_me]; rfl)).trans e_sc) ?_
          refine cx_gi (pc_q := 93) (c := 10) (q := 15) (v := Fx (sc) (15 : Int)) rfl rfl (by decide) (by decide) (Or.inl rfl) rfl ho3.1 ho3.2 rfl ?_
          refine jx_ar (pc_q := 95) (st_q := [.int (i32 (28)), .int (i32 (Fx (sc) (15 : Int)))]) rfl rfl rfl rfl ?_
          refine jx_icmp_ne (pc_q := 98) (tg := 105) rfl rfl rfl (by omega) (by omega) (by decide) (by decide) (fun h225 => ?_) (fun h225 => ?_)
          · have _q := h225
            refine jx_ld (pc_q := 106) (l_q := L) (st_q := [rv (me)]) rfl (jl_rvn gL_0) ?_
            refine cx_gr (pc_q := 109) (c := 8) (q := 0) (v := pg) rfl rfl (by decide) (by decide) rfl rfl ho2.1 ho2.2 ((show Fx (me) (0 : Int) = F (me) (0 : Int) from hMx _ _ o_me (own_z o_me) (by rw [t_me]; rfl)).trans e_pg) ?_
            refine cx_gr (pc_q := 112) (c := 9) (q := 3) (v := F (pg) (3 : Int)) rfl rfl (by decide) (by decide) rfl rfl ho4.1 ho4.2 (show Fx (pg) (3 : Int) = F (pg) (3 : Int) from hMx _ _ o_pg (own_z o_pg) (by rw [t_pg]; rfl)) ?_
            have y226 : own mx (F (pg) (3 : Int)) ∧ tgx (F (pg) (3 : Int)) = 24 ∧ ((6 : Int) ≠ 0 → lnx (F (pg) (3 : Int)) = 6) := by have z := HC_n (c := 9) (q := 3) hCx ho4.1 ho4.2 (own_z ho4.1) (by decide) rfl; rw [show Fx (pg) ((3 : Nat) : Int) = F (pg) (3 : Int) from (show Fx (pg) (3 : Int) = F (pg) (3 : Int) from hMx _ _ o_pg (own_z o_pg) (by rw [t_pg]; rfl))] at z; exact ⟨z.1, z.2.1, z.2.2.1⟩
            have ly226 : lnx (F (pg) (3 : Int)) = 6 := y226.2.2 (by decide)
            refine jx_ar (pc_q := 113) (st_q := [.int (i32 (0)), rv (F (pg) (3 : Int))]) rfl rfl rfl rfl ?_
            refine jx_ld (pc_q := 114) (l_q := L) (st_q := [rv (me), .int (i32 (0)), rv (F (pg) (3 : Int))]) rfl (jl_rvn gL_0) ?_
            refine jx_ar (pc_q := 115) (st_q := [.int (i32 (0)), rv (me), .int (i32 (0)), rv (F (pg) (3 : Int))]) rfl rfl rfl rfl ?_
            have q227 := tz_b (Fx (sc) (15 : Int))
            have q228 : Fx (sc) (7 : Int) = F (sc) (7 : Int) := (show Fx (sc) (7 : Int) = F (sc) (7 : Int) from hMx _ _ o_sc (own_z o_sc) (by rw [t_sc]; rfl))
            have q229 := lz_b (Fx (sc) (14 : Int))
            refine cx_vi (c := 8) (a := me) (st := [.int (i32 (0)), rv (F (pg) (3 : Int))]) (as := [.int (i32 (0))]) rfl rfl rfl ho2.1 ho2.2 (by decide) rfl ⟨rfl, rfl, (by rw [jS_i, jS_r, jS_0]; exact Nat.le_of_ble_eq_true rfl)⟩ rfl (PPx_all X 18 (dd := d) (R := R) (m := mx) (tg := tgx) (ln := lnx) (F := Fx) (me := me) (lv := 0) (hd := by omega) (hC := hCx) (o_me := ho2.1) (t_me := ho2.2) (h_lv := by omega) (sc := sc) (pg := pg) (o_sc := ho3.1) (t_sc := ho3.2) (e_sc := ((show Fx (me) (1 : Int) = F (me) (1 : Int) from hMx _ _ o_me (own_z o_me) (by rw [t_me]; rfl)).trans e_sc)) (o_pg := ho4.1) (t_pg := ho4.2) (e_pg := ((show Fx (me) (0 : Int) = F (me) (0 : Int) from hMx _ _ o_me (own_z o_me) (by rw [t_me]; rfl)).trans e_pg)) (p_0 := by omega) (p_1 := by omega) (p_2 := by omega) (p_3 := by omega) (c_NP := cx_NP)) (fun o V_q hq => ?_)
            obtain ⟨m230, tg230, ln230, F231, r232, rfl, rfl, hx233, hC234, hM235, b236, p237, p238, p239, p240, p241, p242, p243, p244, p245, p246, p247, p248, c249, c250, -⟩ | ⟨m251, tg251, ln251, F251, x251, rfl, rfl, hx251, hC251, hM251, ho251, ht251, p252, p253, p254, p255, c256, c257, -⟩ := hq
            rotate_left
            ·
              have c258 : NM m m251 tg251 := NM_t cx_NM hx251 c257
              have lm259 := hx251.1
              refine Or.inr (Or.inr (Or.inl ⟨_, _, 136, rfl, cx_exc (c := 15) ho251 ht251 (by decide), rfl, ?_⟩))
              rw [← rv_x ho251]
              have hM260 := Fq_t (ln := ln) (ln1 := lnx) hMx hXx hM251 (by decide) (Or.inl rfl)
              have lm261 := hx251.1
              have ho262 : own m251 (me) ∧ tg251 (me) = 9 := Ex_o hx251 ⟨ho2.1, ho2.2⟩
              have ho263 : own m251 (sc) ∧ tg251 (sc) = 11 := Ex_o hx251 ⟨ho3.1, ho3.2⟩
              have ho264 : own m251 (pg) ∧ tg251 (pg) = 10 := Ex_o hx251 ⟨ho4.1, ho4.2⟩
              have hX265 := Ex_t hXx hx251
              refine jx_ld (pc_q := 137) (l_q := jSto1 L 1 (rv (((x251 : Nat) : Int)))) (st_q := []) rfl (js_rvn (by decide)) ?_
              obtain ⟨L266, eL266⟩ : ∃ q : jL, q = jSto1 L 1 (rv (((x251 : Nat) : Int))) := ⟨_, rfl⟩
              rw [← eL266]
              have g267 : jGet L266 0 = some (rv (me)) := eL266 ▸ jg_nr (by decide) gL_0
              have g268 : jGet L266 1 = some (rv (((x251 : Nat) : Int))) := eL266 ▸ jg_eq
              clear eL266
              refine jx_ld (pc_q := 138) (l_q := L266) (st_q := [rv (me)]) rfl (jl_rvn g267) ?_
              refine jx_ar (pc_q := 139) (st_q := .null :: [rv (me)]) rfl rfl rfl rfl ?_
              rw [← rv_0]
              refine cx_po (pc_q := 142) (c := 8) (q := 2) (qi := (2 : Int)) (z := 0) rfl rfl (by decide) (by decide) rfl rfl rfl (by decide) rfl ho262.1 ho262.2 rfl ?_
              obtain ⟨F269, eF269⟩ : ∃ q, q = uF F251 (me) (2 : Int) (0) := ⟨_, rfl⟩
              rw [← eF269]
              have hC270 : HC 0 m251 tg251 ln251 F269 := by rw [eF269]; exact HC_fr (c := 8) (q := 2) (by decide) hC251 ho262.2 (by decide) rfl (Or.inl rfl) ⟨fun w => absurd w (by decide), fun w => absurd w (by decide)⟩
              have hM271 : Fq 0 [(7, 15), (9, 2), (9, 3), (10, 0), (10, 1), (10, 2), (10, 5), (10, 7), (10, 8), (10, 9), (11, 8), (11, 12), (11, 13), (11, 14), (11, 15), (11, 16), (11, 17), (11, 18), (24, -5), (25, -5), (26, -5)] m tg F F269 := by rw [eF269]; exact Fq_p hM260 ho262.2 (fun w => (hX265.2 _ w).1) rfl
              have c272 : NP m251 tg251 F269 := by rw [eF269]; exact NP_u hC251 c256 ho262.2 (by omega)
              have tb273 := tz_b (F251 (sc) (15 : Int))
              refine jx_rt (v := none) rfl rfl rfl rfl rfl rfl ?_
              have q274 : F269 (sc) (7 : Int) = F (sc) (7 : Int) := ((show F269 (sc) (7 : Int) = F251 (sc) (7 : Int) from by rw [eF269]; exact uF_j (by decide)).trans ((show F251 (sc) (7 : Int) = Fx (sc) (7 : Int) from hM251 _ _ ho3.1 (own_z ho3.1) (by rw [ho3.2]; rfl)).trans (show Fx (sc) (7 : Int) = F (sc) (7 : Int) from hMx _ _ o_sc (own_z o_sc) (by rw [t_sc]; rfl))))
              have q275 : F269 (pg) (9 : Int) = F251 (pg) (9 : Int) := (show F269 (pg) (9 : Int) = F251 (pg) (9 : Int) from by rw [eF269]; exact uF_j (by decide))
              have q276 : F269 (pg) (3 : Int) = F (pg) (3 : Int) := ((show F269 (pg) (3 : Int) = F251 (pg) (3 : Int) from by rw [eF269]; exact uF_j (by decide)).trans ((show F251 (pg) (3 : Int) = Fx (pg) (3 : Int) from hM251 _ _ ho4.1 (own_z ho4.1) (by rw [ho4.2]; rfl)).trans (show Fx (pg) (3 : Int) = F (pg) (3 : Int) from hMx _ _ o_pg (own_z o_pg) (by rw [t_pg]; rfl))))
              have q277 : F269 (pg) (0 : Int) = F251 (pg) (0 : Int) := (show F269 (pg) (0 : Int) = F251 (pg) (0 : Int) from by rw [eF269]; exact uF_j (by decide))
              have q278 : F269 (pg) (9 : Int) = F251 (pg) (9 : Int) := q275
              exact ⟨m251, tg251, ln251, F269, rfl, rfl, hX265, hC270, hM271, by omega, by omega, by omega, (Or.inl (by omega)), c272, c258, trivial⟩
            have hM279 : Fq 0 [(7, 15), (9, 2), (9, 3), (10, 0), (10, 1), (10, 2), (10, 5), (10, 7), (10, 8), (10, 9), (11, 8), (11, 12), (11, 13), (11, 14), (11, 15), (11, 16), (11, 17), (11, 18), (24, -5), (25, -5), (26, -5)] m tg F F231 := Fq_t (ln := ln) (ln1 := lnx) hMx hXx hM235 (by decide) (Or.inl rfl)
            have lm280 := hx233.1
            have ho281 : own m230 (me) ∧ tg230 (me) = 9 := Ex_o hx233 ⟨ho2.1, ho2.2⟩
            have ho282 : own m230 (F (pg) (3 : Int)) ∧ tg230 (F (pg) (3 : Int)) = 24 := Ex_o hx233 ⟨y226.1, y226.2.1⟩
            have ho283 : own m230 (sc) ∧ tg230 (sc) = 11 := Ex_o hx233 ⟨ho3.1, ho3.2⟩
            have ho284 : own m230 (pg) ∧ tg230 (pg) = 10 := Ex_o hx233 ⟨ho4.1, ho4.2⟩
            have ln285 : ln230 (F (pg) (3 : Int)) = 6 := (hx233.2 _ y226.1).2.trans ly226
            have hX286 := Ex_t hXx hx233
            have c287 : NM m m230 tg230 := NM_t cx_NM hx233 c250
            have c288 : CR m230 tg230 F231 (F pg (3 : Int)) (0) := CR_x iv_9 hx233 hM235 rfl
            refine Or.inr (Or.inl ⟨_, rfl, ?_⟩)
            have b289 := HC_l hC234 ho282.1 ho282.2 (by decide)
            refine cx_aas (pc_q := 119) (c := 7) (z := 0) (y := r232) rfl rfl ho282.1 (by rw [ho282.2]; decide) (by omega) (by omega) (by omega) (fun hz => (Or.inr ⟨b236.1, b236.2⟩).resolve_left hz) (by decide) (by rw [ho282.2]; rfl) ?_
            obtain ⟨F290, eF290⟩ : ∃ q, q = uF F231 (F (pg) (3 : Int)) (0 : Int) (r232) := ⟨_, rfl⟩
            rw [← eF290]
            have hC291 : HC 0 m230 tg230 ln230 F290 := by rw [eF290]; exact HC_pa hC234 ho282.1 ho282.2 (by decide) (by omega) (Or.inr ⟨b236.1, b236.2⟩)
            have hM292 : Fq 0 [(7, 15), (9, 2), (9, 3), (10, 0), (10, 1), (10, 2), (10, 5), (10, 7), (10, 8), (10, 9), (11, 8), (11, 12), (11, 13), (11, 14), (11, 15), (11, 16), (11, 17), (11, 18), (24, -5), (25, -5), (26, -5)] m tg F F290 := by rw [eF290]; exact Fq_p hM279 ho282.2 (fun w => (hX286.2 _ w).1) (inL_a rfl (by omega) rfl)
            have c293 : NP m230 tg230 F290 := by rw [eF290]; exact NP_rt hC234 c249 ho282.2 (show F231 (F (pg) (3 : Int)) (-1) = 0 by have z := HC_n (c := 9) (q := 3) hC234 ho284.1 ho284.2 (own_z ho284.1) (by decide) rfl; rw [show F231 (pg) ((3 : Nat) : Int) = F (pg) (3 : Int) from ((show F231 (pg) (3 : Int) = Fx (pg) (3 : Int) from hM235 _ _ ho4.1 (own_z ho4.1) (by rw [ho4.2]; rfl)).trans (show Fx (pg) (3 : Int) = F (pg) (3 : Int) from hMx _ _ o_pg (own_z o_pg) (by rw [t_pg]; rfl)))] at z; exact z.2.2.2 (by decide)) (by omega) (SN_i b236.1 b236.2 (by omega) (by omega) (by omega))
            have c294 : CR m230 tg230 F290 (F pg (3 : Int)) ((0) + 1) := by rw [eF290]; exact CR_p c288
            have tb295 := tz_b (F231 (sc) (15 : Int))
            refine jx_ld (pc_q := 120) (l_q := L) (st_q := [rv (me)]) rfl (jl_rvn gL_0) ?_
            refine cx_gr (pc_q := 123) (c := 8) (q := 1) (v := sc) rfl rfl (by decide) (by decide) rfl rfl ho281.1 ho281.2 (((show F290 (me) (1 : Int) = F231 (me) (1 : Int) from by rw [eF290]; exact uF_j (by decide)).trans ((show F231 (me) (1 : Int) = Fx (me) (1 : Int) from hM235 _ _ ho2.1 (own_z ho2.1) (by rw [ho2.2]; rfl)).trans (show Fx (me) (1 : Int) = F (me) (1 : Int) from hMx _ _ o_me (own_z o_me) (by rw [t_me]; rfl)))).trans e_sc) ?_
            refine cx_gi (pc_q := 126) (c := 10) (q := 12) (v := F231 (sc) (12 : Int)) rfl rfl (by decide) (by decide) (Or.inr rfl) rfl ho283.1 ho283.2 (show F290 (sc) (12 : Int) = F231 (sc) (12 : Int) from by rw [eF290]; exact uF_j (by decide)) ?_
            have b296 : (0 : Int) ≤ F231 (sc) (12 : Int) ∧ F231 (sc) (12 : Int) ≤ 1 := by have z := HC_i (c := 10) (q := 12) hC291 ho283.1 ho283.2 (by decide) rfl; rw [show F290 (sc) ((12 : Nat) : Int) = F231 (sc) (12 : Int) from (show F290 (sc) (12 : Int) = F231 (sc) (12 : Int) from by rw [eF290]; exact uF_j (by decide))] at z; exact z
            refine jx_if_ne (pc_q := 129) (tg := 133) rfl rfl rfl (by omega) (by omega) (fun h297 => ?_) (fun h297 => ?_)
            · have _q := h297
              refine jx_go (tg := 142) rfl rfl ?_
              have tb298 := tz_b (F231 (sc) (15 : Int))
              refine jx_rt (v := none) rfl rfl rfl rfl rfl rfl ?_
              have q299 : F290 (sc) (7 : Int) = F (sc) (7 : Int) := ((show F290 (sc) (7 : Int) = F231 (sc) (7 : Int) from by rw [eF290]; exact uF_j (by decide)).trans ((show F231 (sc) (7 : Int) = Fx (sc) (7 : Int) from hM235 _ _ ho3.1 (own_z ho3.1) (by rw [ho3.2]; rfl)).trans (show Fx (sc) (7 : Int) = F (sc) (7 : Int) from hMx _ _ o_sc (own_z o_sc) (by rw [t_sc]; rfl))))
              have q300 : F290 (pg) (9 : Int) = F231 (pg) (9 : Int) := (show F290 (pg) (9 : Int) = F231 (pg) (9 : Int) from by rw [eF290]; exact uF_j (by decide))
              have q301 : F290 (pg) (3 : Int) = F (pg) (3 : Int) := ((show F290 (pg) (3 : Int) = F231 (pg) (3 : Int) from by rw [eF290]; exact uF_j (by decide)).trans ((show F231 (pg) (3 : Int) = Fx (pg) (3 : Int) from hM235 _ _ ho4.1 (own_z ho4.1) (by rw [ho4.2]; rfl)).trans (show Fx (pg) (3 : Int) = F (pg) (3 : Int) from hMx _ _ o_pg (own_z o_pg) (by rw [t_pg]; rfl))))
              have q302 : F290 (pg) (0 : Int) = F231 (pg) (0 : Int) := (show F290 (pg) (0 : Int) = F231 (pg) (0 : Int) from by rw [eF290]; exact uF_a (fun w => by have q1 := ho284.2; have q2 := ho282.2; rw [w, q2] at q1; exact absurd q1 (by decide)))
              have q303 : F290 (pg) (9 : Int) = F231 (pg) (9 : Int) := q300
              exact ⟨m230, tg230, ln230, F290, rfl, rfl, hX286, hC291, hM292, by omega, by omega, by omega, (Or.inr (by have z := c294.2.2; omega)), c293, c287, trivial⟩
            · have _q := h297
              refine jx_ld (pc_q := 130) (l_q := L) (st_q := [rv (me)]) rfl (jl_rvn gL_0) ?_
              have q304 : F290 (sc) (8 : Int) = F231 (sc) (8 : Int) := (show F290 (sc) (8 : Int) = F231 (sc) (8 : Int) from by rw [eF290]; exact uF_j (by decide))
              have q305 : F290 (sc) (7 : Int) = F (sc) (7 : Int) := ((show F290 (sc) (7 : Int) = F231 (sc) (7 : Int) from by rw [eF290]; exact uF_j (by decide)).trans ((show F231 (sc) (7 : Int) = Fx (sc) (7 : Int) from hM235 _ _ ho3.1 (own_z ho3.1) (by rw [ho3.2]; rfl)).trans (show Fx (sc) (7 : Int) = F (sc) (7 : Int) from hMx _ _ o_sc (own_z o_sc) (by rw [t_sc]; rfl))))
              refine cx_vi (c := 8) (a := me) (st := []) (as := []) rfl rfl rfl ho281.1 ho281.2 (by decide) rfl ⟨rfl, rfl, (Nat.le_of_ble_eq_true rfl)⟩ rfl (k_LParser_form (dd := d) (R := R) (m := m230) (tg := tg230) (ln := ln230) (F := F290) (me := me) (hd := by omega) (hC := hC291) (o_me := ho281.1) (t_me := ho281.2) (sc := sc) (pg := pg) (o_sc := ho283.1) (t_sc := ho283.2) (e_sc := (((show F290 (me) (1 : Int) = F231 (me) (1 : Int) from by rw [eF290]; exact uF_j (by decide)).trans ((show F231 (me) (1 : Int) = Fx (me) (1 : Int) from hM235 _ _ ho2.1 (own_z ho2.1) (by rw [ho2.2]; rfl)).trans (show Fx (me) (1 : Int) = F (me) (1 : Int) from hMx _ _ o_me (own_z o_me) (by rw [t_me]; rfl)))).trans e_sc)) (o_pg := ho284.1) (t_pg := ho284.2) (e_pg := (((show F290 (me) (0 : Int) = F231 (me) (0 : Int) from by rw [eF290]; exact uF_a (fun w => by have q1 := ho281.2; have q2 := ho282.2; rw [w, q2] at q1; exact absurd q1 (by decide))).trans ((show F231 (me) (0 : Int) = Fx (me) (0 : Int) from hM235 _ _ ho2.1 (own_z ho2.1) (by rw [ho2.2]; rfl)).trans (show Fx (me) (0 : Int) = F (me) (0 : Int) from hMx _ _ o_me (own_z o_me) (by rw [t_me]; rfl)))).trans e_pg)) (p_0 := by omega) (c_NP := c293)) (fun o V_q hq => ?_)
              obtain ⟨m306, tg306, ln306, F307, rfl, rfl, hx308, hC309, hM310, p311, c312, c313, -⟩ | ⟨m314, tg314, ln314, F314, x314, rfl, rfl, hx314, hC314, hM314, ho314, ht314, p315, p316, p317, p318, c319, c320, -⟩ := hq
              rotate_left
              ·
                have c321 : NM m m314 tg314 := NM_t c287 hx314 c320
                have lm322 := hx314.1
                refine Or.inr (Or.inr (Or.inl ⟨_, _, 136, rfl, cx_exc (c := 15) ho314 ht314 (by decide), rfl, ?_⟩))
                rw [← rv_x ho314]
                have hM323 := Fq_t (ln := ln) (ln1 := ln230) hM292 hX286 hM314 (by decide) (Or.inl rfl)
                have lm324 := hx314.1
                have ho325 : own m314 (me) ∧ tg314 (me) = 9 := Ex_o hx314 ⟨ho281.1, ho281.2⟩
                have ho326 : own m314 (sc) ∧ tg314 (sc) = 11 := Ex_o hx314 ⟨ho283.1, ho283.2⟩
                have ho327 : own m314 (pg) ∧ tg314 (pg) = 10 := Ex_o hx314 ⟨ho284.1, ho284.2⟩
                have hX328 := Ex_t hX286 hx314
                refine jx_ld (pc_q := 137) (l_q := jSto1 L 1 (rv (((x314 : Nat) : Int)))) (st_q := []) rfl (js_rvn (by decide)) ?_
                obtain ⟨L329, eL329⟩ : ∃ q : jL, q = jSto1 L 1 (rv (((x314 : Nat) : Int))) := ⟨_, rfl⟩
                rw [← eL329]
                have g330 : jGet L329 0 = some (rv (me)) := eL329 ▸ jg_nr (by decide) gL_0
                have g331 : jGet L329 1 = some (rv (((x314 : Nat) : Int))) := eL329 ▸ jg_eq
                clear eL329
                refine jx_ld (pc_q := 138) (l_q := L329) (st_q := [rv (me)]) rfl (jl_rvn g330) ?_
                refine jx_ar (pc_q := 139) (st_q := .null :: [rv (me)]) rfl rfl rfl rfl ?_
                rw [← rv_0]
                refine cx_po (pc_q := 142) (c := 8) (q := 2) (qi := (2 : Int)) (z := 0) rfl rfl (by decide) (by decide) rfl rfl rfl (by decide) rfl ho325.1 ho325.2 rfl ?_
                obtain ⟨F332, eF332⟩ : ∃ q, q = uF F314 (me) (2 : Int) (0) := ⟨_, rfl⟩
                rw [← eF332]
                have hC333 : HC 0 m314 tg314 ln314 F332 := by rw [eF332]; exact HC_fr (c := 8) (q := 2) (by decide) hC314 ho325.2 (by decide) rfl (Or.inl rfl) ⟨fun w => absurd w (by decide), fun w => absurd w (by decide)⟩
                have hM334 : Fq 0 [(7, 15), (9, 2), (9, 3), (10, 0), (10, 1), (10, 2), (10, 5), (10, 7), (10, 8), (10, 9), (11, 8), (11, 12), (11, 13), (11, 14), (11, 15), (11, 16), (11, 17), (11, 18), (24, -5), (25, -5), (26, -5)] m tg F F332 := by rw [eF332]; exact Fq_p hM323 ho325.2 (fun w => (hX328.2 _ w).1) rfl
                have c335 : NP m314 tg314 F332 := by rw [eF332]; exact NP_u hC314 c319 ho325.2 (by omega)
                have tb336 := tz_b (F231 (sc) (15 : Int))
                refine jx_rt (v := none) rfl rfl rfl rfl rfl rfl ?_
                have q337 : F332 (sc) (7 : Int) = F (sc) (7 : Int) := ((show F332 (sc) (7 : Int) = F314 (sc) (7 : Int) from by rw [eF332]; exact uF_j (by decide)).trans ((show F314 (sc) (7 : Int) = F290 (sc) (7 : Int) from hM314 _ _ ho283.1 (own_z ho283.1) (by rw [ho283.2]; rfl)).trans q305))
                have q338 : F332 (pg) (9 : Int) = F231 (pg) (9 : Int) := ((show F332 (pg) (9 : Int) = F314 (pg) (9 : Int) from by rw [eF332]; exact uF_j (by decide)).trans ((show F314 (pg) (9 : Int) = F290 (pg) (9 : Int) from hM314 _ _ ho284.1 (own_z ho284.1) (by rw [ho284.2]; rfl)).trans (show F290 (pg) (9 : Int) = F231 (pg) (9 : Int) from by rw [eF290]; exact uF_j (by decide))))
                have q339 : F332 (pg) (3 : Int) = F (pg) (3 : Int) := ((show F332 (pg) (3 : Int) = F314 (pg) (3 : Int) from by rw [eF332]; exact uF_j (by decide)).trans ((show F314 (pg) (3 : Int) = F290 (pg) (3 : Int) from hM314 _ _ ho284.1 (own_z ho284.1) (by rw [ho284.2]; rfl)).trans ((show F290 (pg) (3 : Int) = F231 (pg) (3 : Int) from by rw [eF290]; exact uF_j (by decide)).trans ((show F231 (pg) (3 : Int) = Fx (pg) (3 : Int) from hM235 _ _ ho4.1 (own_z ho4.1) (by rw [ho4.2]; rfl)).trans (show Fx (pg) (3 : Int) = F (pg) (3 : Int) from hMx _ _ o_pg (own_z o_pg) (by rw [t_pg]; rfl))))))
                have q340 : F332 (pg) (0 : Int) = F314 (pg) (0 : Int) := (show F332 (pg) (0 : Int) = F314 (pg) (0 : Int) from by rw [eF332]; exact uF_j (by decide))
                have q341 : F332 (pg) (9 : Int) = F231 (pg) (9 : Int) := q338
                exact ⟨m314, tg314, ln314, F332, rfl, rfl, hX328, hC333, hM334, by omega, by omega, by omega, (Or.inl (by omega)), c335, c321, trivial⟩
              exact p311.elim
          · have _q := h225
            have t342 : tz (Fx (sc) (15 : Int)) = 1 := tz_p (by omega)
            refine jx_ld (pc_q := 99) (l_q := L) (st_q := [rv (me)]) rfl (jl_rvn gL_0) ?_
            have q343 := tz_b (Fx (sc) (15 : Int))
            have q344 : Fx (sc) (7 : Int) = F (sc) (7 : Int) := (show Fx (sc) (7 : Int) = F (sc) (7 : Int) from hMx _ _ o_sc (own_z o_sc) (by rw [t_sc]; rfl))
            have q345 := lz_b (Fx (sc) (14 : Int))
            refine cx_vi (c := 8) (a := me) (st := []) (as := []) rfl rfl rfl ho2.1 ho2.2 (by decide) rfl ⟨rfl, rfl, (Nat.le_of_ble_eq_true rfl)⟩ rfl (k_LParser_readPlaced (dd := d) (R := R) (m := mx) (tg := tgx) (ln := lnx) (F := Fx) (me := me) (hd := by omega) (hC := hCx) (o_me := ho2.1) (t_me := ho2.2) (sc := sc) (pg := pg) (o_sc := ho3.1) (t_sc := ho3.2) (e_sc := ((show Fx (me) (1 : Int) = F (me) (1 : Int) from hMx _ _ o_me (own_z o_me) (by rw [t_me]; rfl)).trans e_sc)) (o_pg := ho4.1) (t_pg := ho4.2) (e_pg := ((show Fx (me) (0 : Int) = F (me) (0 : Int) from hMx _ _ o_me (own_z o_me) (by rw [t_me]; rfl)).trans e_pg)) (p_0 := by omega) (p_1 := by omega) (c_NP := cx_NP) (cr := 0) (c_CR := CR_e iv_9 (show Fx (pg) (3 : Int) = F (pg) (3 : Int) from hMx _ _ o_pg (own_z o_pg) (by rw [t_pg]; rfl)))) (fun o V_q hq => ?_)
            obtain ⟨m346, tg346, ln346, F347, rfl, rfl, hx348, hC349, hM350, p351, p352, p353, p354, p355, p356, c357, c358, c359, -⟩ | ⟨m360, tg360, ln360, F360, x360, rfl, rfl, hx360, hC360, hM360, ho360, ht360, p361, p362, p363, p364, c365, c366, -⟩ := hq
            rotate_left
            ·
              have c367 : NM m m360 tg360 := NM_t cx_NM hx360 c366
              have lm368 := hx360.1
              refine Or.inr (Or.inr (Or.inl ⟨_, _, 136, rfl, cx_exc (c := 15) ho360 ht360 (by decide), rfl, ?_⟩))
              rw [← rv_x ho360]
              have hM369 := Fq_t (ln := ln) (ln1 := lnx) hMx hXx hM360 (by decide) (Or.inl rfl)
              have lm370 := hx360.1
              have ho371 : own m360 (me) ∧ tg360 (me) = 9 := Ex_o hx360 ⟨ho2.1, ho2.2⟩
              have ho372 : own m360 (sc) ∧ tg360 (sc) = 11 := Ex_o hx360 ⟨ho3.1, ho3.2⟩
              have ho373 : own m360 (pg) ∧ tg360 (pg) = 10 := Ex_o hx360 ⟨ho4.1, ho4.2⟩
              have hX374 := Ex_t hXx hx360
              refine jx_ld (pc_q := 137) (l_q := jSto1 L 1 (rv (((x360 : Nat) : Int)))) (st_q := []) rfl (js_rvn (by decide)) ?_
              obtain ⟨L375, eL375⟩ : ∃ q : jL, q = jSto1 L 1 (rv (((x360 : Nat) : Int))) := ⟨_, rfl⟩
              rw [← eL375]
              have g376 : jGet L375 0 = some (rv (me)) := eL375 ▸ jg_nr (by decide) gL_0
              have g377 : jGet L375 1 = some (rv (((x360 : Nat) : Int))) := eL375 ▸ jg_eq
              clear eL375
              refine jx_ld (pc_q := 138) (l_q := L375) (st_q := [rv (me)]) rfl (jl_rvn g376) ?_
              refine jx_ar (pc_q := 139) (st_q := .null :: [rv (me)]) rfl rfl rfl rfl ?_
              rw [← rv_0]
              refine cx_po (pc_q := 142) (c := 8) (q := 2) (qi := (2 : Int)) (z := 0) rfl rfl (by decide) (by decide) rfl rfl rfl (by decide) rfl ho371.1 ho371.2 rfl ?_
              obtain ⟨F378, eF378⟩ : ∃ q, q = uF F360 (me) (2 : Int) (0) := ⟨_, rfl⟩
              rw [← eF378]
              have hC379 : HC 0 m360 tg360 ln360 F378 := by rw [eF378]; exact HC_fr (c := 8) (q := 2) (by decide) hC360 ho371.2 (by decide) rfl (Or.inl rfl) ⟨fun w => absurd w (by decide), fun w => absurd w (by decide)⟩
              have hM380 : Fq 0 [(7, 15), (9, 2), (9, 3), (10, 0), (10, 1), (10, 2), (10, 5), (10, 7), (10, 8), (10, 9), (11, 8), (11, 12), (11, 13), (11, 14), (11, 15), (11, 16), (11, 17), (11, 18), (24, -5), (25, -5), (26, -5)] m tg F F378 := by rw [eF378]; exact Fq_p hM369 ho371.2 (fun w => (hX374.2 _ w).1) rfl
              have c381 : NP m360 tg360 F378 := by rw [eF378]; exact NP_u hC360 c365 ho371.2 (by omega)
              have tb382 := tz_b (F360 (sc) (15 : Int))
              refine jx_rt (v := none) rfl rfl rfl rfl rfl rfl ?_
              have q383 : F378 (sc) (7 : Int) = F (sc) (7 : Int) := ((show F378 (sc) (7 : Int) = F360 (sc) (7 : Int) from by rw [eF378]; exact uF_j (by decide)).trans ((show F360 (sc) (7 : Int) = Fx (sc) (7 : Int) from hM360 _ _ ho3.1 (own_z ho3.1) (by rw [ho3.2]; rfl)).trans (show Fx (sc) (7 : Int) = F (sc) (7 : Int) from hMx _ _ o_sc (own_z o_sc) (by rw [t_sc]; rfl))))
              have q384 : F378 (pg) (9 : Int) = F360 (pg) (9 : Int) := (show F378 (pg) (9 : Int) = F360 (pg) (9 : Int) from by rw [eF378]; exact uF_j (by decide))
              have q385 : F378 (pg) (3 : Int) = F (pg) (3 : Int) := ((show F378 (pg) (3 : Int) = F360 (pg) (3 : Int) from by rw [eF378]; exact uF_j (by decide)).trans ((show F360 (pg) (3 : Int) = Fx (pg) (3 : Int) from hM360 _ _ ho4.1 (own_z ho4.1) (by rw [ho4.2]; rfl)).trans (show Fx (pg) (3 : Int) = F (pg) (3 : Int) from hMx _ _ o_pg (own_z o_pg) (by rw [t_pg]; rfl))))
              have q386 : F378 (pg) (0 : Int) = F360 (pg) (0 : Int) := (show F378 (pg) (0 : Int) = F360 (pg) (0 : Int) from by rw [eF378]; exact uF_j (by decide))
              have q387 : F378 (pg) (9 : Int) = F360 (pg) (9 : Int) := q384
              exact ⟨m360, tg360, ln360, F378, rfl, rfl, hX374, hC379, hM380, by omega, by omega, by omega, (Or.inl (by omega)), c381, c367, trivial⟩
            have hM388 : Fq 0 [(7, 15), (9, 2), (9, 3), (10, 0), (10, 1), (10, 2), (10, 5), (10, 7), (10, 8), (10, 9), (11, 8), (11, 12), (11, 13), (11, 14), (11, 15), (11, 16), (11, 17), (11, 18), (24, -5), (25, -5), (26, -5)] m tg F F347 := Fq_t (ln := ln) (ln1 := lnx) hMx hXx hM350 (by decide) (Or.inl rfl)
            have lm389 := hx348.1
            have ho390 : own m346 (me) ∧ tg346 (me) = 9 := Ex_o hx348 ⟨ho2.1, ho2.2⟩
            have ho391 : own m346 (sc) ∧ tg346 (sc) = 11 := Ex_o hx348 ⟨ho3.1, ho3.2⟩
            have ho392 : own m346 (pg) ∧ tg346 (pg) = 10 := Ex_o hx348 ⟨ho4.1, ho4.2⟩
            have hX393 := Ex_t hXx hx348
            have c394 : NM m m346 tg346 := NM_t cx_NM hx348 c358
            have c395 : CR m346 tg346 F347 (F pg (3 : Int)) ((0) + (F347 sc (8 : Int) - Fx sc (8 : Int) - 3) / 4) := CR_e2 c359 (show Fx (pg) (3 : Int) = F (pg) (3 : Int) from hMx _ _ o_pg (own_z o_pg) (by rw [t_pg]; rfl))
            refine Or.inl ⟨rfl, ?_⟩
            refine jx_go (tg := 119) rfl rfl ?_
            have tb396 := tz_b (F347 (sc) (15 : Int))
            refine jx_ld (pc_q := 120) (l_q := L) (st_q := [rv (me)]) rfl (jl_rvn gL_0) ?_
            refine cx_gr (pc_q := 123) (c := 8) (q := 1) (v := sc) rfl rfl (by decide) (by decide) rfl rfl ho390.1 ho390.2 (((show F347 (me) (1 : Int) = Fx (me) (1 : Int) from hM350 _ _ ho2.1 (own_z ho2.1) (by rw [ho2.2]; rfl)).trans (show Fx (me) (1 : Int) = F (me) (1 : Int) from hMx _ _ o_me (own_z o_me) (by rw [t_me]; rfl))).trans e_sc) ?_
            refine cx_gi (pc_q := 126) (c := 10) (q := 12) (v := F347 (sc) (12 : Int)) rfl rfl (by decide) (by decide) (Or.inr rfl) rfl ho391.1 ho391.2 rfl ?_
            have b397 : (0 : Int) ≤ F347 (sc) (12 : Int) ∧ F347 (sc) (12 : Int) ≤ 1 := by have z := HC_i (c := 10) (q := 12) hC349 ho391.1 ho391.2 (by decide) rfl; rw [show F347 (sc) ((12 : Nat) : Int) = F347 (sc) (12 : Int) from rfl] at z; exact z
            refine jx_if_ne (pc_q := 129) (tg := 133) rfl rfl rfl (by omega) (by omega) (fun h398 => ?_) (fun h398 => ?_)
            · have _q := h398
              refine jx_go (tg := 142) rfl rfl ?_
              have tb399 := tz_b (F347 (sc) (15 : Int))
              refine jx_rt (v := none) rfl rfl rfl rfl rfl rfl ?_
              have q400 : F347 (sc) (7 : Int) = F (sc) (7 : Int) := ((show F347 (sc) (7 : Int) = Fx (sc) (7 : Int) from hM350 _ _ ho3.1 (own_z ho3.1) (by rw [ho3.2]; rfl)).trans (show Fx (sc) (7 : Int) = F (sc) (7 : Int) from hMx _ _ o_sc (own_z o_sc) (by rw [t_sc]; rfl)))
              have q401 : F347 (pg) (3 : Int) = F (pg) (3 : Int) := ((show F347 (pg) (3 : Int) = Fx (pg) (3 : Int) from hM350 _ _ ho4.1 (own_z ho4.1) (by rw [ho4.2]; rfl)).trans (show Fx (pg) (3 : Int) = F (pg) (3 : Int) from hMx _ _ o_pg (own_z o_pg) (by rw [t_pg]; rfl)))
              exact ⟨m346, tg346, ln346, F347, rfl, rfl, hX393, hC349, hM388, by omega, by omega, by omega, (Or.inr (by have z := c395.2.2; omega)), c357, c394, trivial⟩
            · have _q := h398
              refine jx_ld (pc_q := 130) (l_q := L) (st_q := [rv (me)]) rfl (jl_rvn gL_0) ?_
              have q402 : F347 (sc) (7 : Int) = F (sc) (7 : Int) := ((show F347 (sc) (7 : Int) = Fx (sc) (7 : Int) from hM350 _ _ ho3.1 (own_z ho3.1) (by rw [ho3.2]; rfl)).trans (show Fx (sc) (7 : Int) = F (sc) (7 : Int) from hMx _ _ o_sc (own_z o_sc) (by rw [t_sc]; rfl)))
              refine cx_vi (c := 8) (a := me) (st := []) (as := []) rfl rfl rfl ho390.1 ho390.2 (by decide) rfl ⟨rfl, rfl, (Nat.le_of_ble_eq_true rfl)⟩ rfl (k_LParser_form (dd := d) (R := R) (m := m346) (tg := tg346) (ln := ln346) (F := F347) (me := me) (hd := by omega) (hC := hC349) (o_me := ho390.1) (t_me := ho390.2) (sc := sc) (pg := pg) (o_sc := ho391.1) (t_sc := ho391.2) (e_sc := (((show F347 (me) (1 : Int) = Fx (me) (1 : Int) from hM350 _ _ ho2.1 (own_z ho2.1) (by rw [ho2.2]; rfl)).trans (show Fx (me) (1 : Int) = F (me) (1 : Int) from hMx _ _ o_me (own_z o_me) (by rw [t_me]; rfl))).trans e_sc)) (o_pg := ho392.1) (t_pg := ho392.2) (e_pg := (((show F347 (me) (0 : Int) = Fx (me) (0 : Int) from hM350 _ _ ho2.1 (own_z ho2.1) (by rw [ho2.2]; rfl)).trans (show Fx (me) (0 : Int) = F (me) (0 : Int) from hMx _ _ o_me (own_z o_me) (by rw [t_me]; rfl))).trans e_pg)) (p_0 := by omega) (c_NP := c357)) (fun o V_q hq => ?_)
              obtain ⟨m403, tg403, ln403, F404, rfl, rfl, hx405, hC406, hM407, p408, c409, c410, -⟩ | ⟨m411, tg411, ln411, F411, x411, rfl, rfl, hx411, hC411, hM411, ho411, ht411, p412, p413, p414, p415, c416, c417, -⟩ := hq
              rotate_left
              ·
                have c418 : NM m m411 tg411 := NM_t c394 hx411 c417
                have lm419 := hx411.1
                refine Or.inr (Or.inr (Or.inl ⟨_, _, 136, rfl, cx_exc (c := 15) ho411 ht411 (by decide), rfl, ?_⟩))
                rw [← rv_x ho411]
                have hM420 := Fq_t (ln := ln) (ln1 := ln346) hM388 hX393 hM411 (by decide) (Or.inl rfl)
                have lm421 := hx411.1
                have ho422 : own m411 (me) ∧ tg411 (me) = 9 := Ex_o hx411 ⟨ho390.1, ho390.2⟩
                have ho423 : own m411 (sc) ∧ tg411 (sc) = 11 := Ex_o hx411 ⟨ho391.1, ho391.2⟩
                have ho424 : own m411 (pg) ∧ tg411 (pg) = 10 := Ex_o hx411 ⟨ho392.1, ho392.2⟩
                have hX425 := Ex_t hX393 hx411
                refine jx_ld (pc_q := 137) (l_q := jSto1 L 1 (rv (((x411 : Nat) : Int)))) (st_q := []) rfl (js_rvn (by decide)) ?_
                obtain ⟨L426, eL426⟩ : ∃ q : jL, q = jSto1 L 1 (rv (((x411 : Nat) : Int))) := ⟨_, rfl⟩
                rw [← eL426]
                have g427 : jGet L426 0 = some (rv (me)) := eL426 ▸ jg_nr (by decide) gL_0
                have g428 : jGet L426 1 = some (rv (((x411 : Nat) : Int))) := eL426 ▸ jg_eq
                clear eL426
                refine jx_ld (pc_q := 138) (l_q := L426) (st_q := [rv (me)]) rfl (jl_rvn g427) ?_
                refine jx_ar (pc_q := 139) (st_q := .null :: [rv (me)]) rfl rfl rfl rfl ?_
                rw [← rv_0]
                refine cx_po (pc_q := 142) (c := 8) (q := 2) (qi := (2 : Int)) (z := 0) rfl rfl (by decide) (by decide) rfl rfl rfl (by decide) rfl ho422.1 ho422.2 rfl ?_
                obtain ⟨F429, eF429⟩ : ∃ q, q = uF F411 (me) (2 : Int) (0) := ⟨_, rfl⟩
                rw [← eF429]
                have hC430 : HC 0 m411 tg411 ln411 F429 := by rw [eF429]; exact HC_fr (c := 8) (q := 2) (by decide) hC411 ho422.2 (by decide) rfl (Or.inl rfl) ⟨fun w => absurd w (by decide), fun w => absurd w (by decide)⟩
                have hM431 : Fq 0 [(7, 15), (9, 2), (9, 3), (10, 0), (10, 1), (10, 2), (10, 5), (10, 7), (10, 8), (10, 9), (11, 8), (11, 12), (11, 13), (11, 14), (11, 15), (11, 16), (11, 17), (11, 18), (24, -5), (25, -5), (26, -5)] m tg F F429 := by rw [eF429]; exact Fq_p hM420 ho422.2 (fun w => (hX425.2 _ w).1) rfl
                have c432 : NP m411 tg411 F429 := by rw [eF429]; exact NP_u hC411 c416 ho422.2 (by omega)
                have tb433 := tz_b (F347 (sc) (15 : Int))
                refine jx_rt (v := none) rfl rfl rfl rfl rfl rfl ?_
                have q434 : F429 (sc) (7 : Int) = F (sc) (7 : Int) := ((show F429 (sc) (7 : Int) = F411 (sc) (7 : Int) from by rw [eF429]; exact uF_j (by decide)).trans ((show F411 (sc) (7 : Int) = F347 (sc) (7 : Int) from hM411 _ _ ho391.1 (own_z ho391.1) (by rw [ho391.2]; rfl)).trans q402))
                have q435 : F429 (pg) (9 : Int) = F347 (pg) (9 : Int) := ((show F429 (pg) (9 : Int) = F411 (pg) (9 : Int) from by rw [eF429]; exact uF_j (by decide)).trans (show F411 (pg) (9 : Int) = F347 (pg) (9 : Int) from hM411 _ _ ho392.1 (own_z ho392.1) (by rw [ho392.2]; rfl)))
                have q436 : F429 (pg) (3 : Int) = F (pg) (3 : Int) := ((show F429 (pg) (3 : Int) = F411 (pg) (3 : Int) from by rw [eF429]; exact uF_j (by decide)).trans ((show F411 (pg) (3 : Int) = F347 (pg) (3 : Int) from hM411 _ _ ho392.1 (own_z ho392.1) (by rw [ho392.2]; rfl)).trans ((show F347 (pg) (3 : Int) = Fx (pg) (3 : Int) from hM350 _ _ ho4.1 (own_z ho4.1) (by rw [ho4.2]; rfl)).trans (show Fx (pg) (3 : Int) = F (pg) (3 : Int) from hMx _ _ o_pg (own_z o_pg) (by rw [t_pg]; rfl)))))
                have q437 : F429 (pg) (0 : Int) = F411 (pg) (0 : Int) := (show F429 (pg) (0 : Int) = F411 (pg) (0 : Int) from by rw [eF429]; exact uF_j (by decide))
                have q438 : F429 (pg) (9 : Int) = F347 (pg) (9 : Int) := q435
                exact ⟨m411, tg411, ln411, F429, rfl, rfl, hX425, hC430, hM431, by omega, by omega, by omega, (Or.inl (by omega)), c432, c418, trivial⟩
              exact p408.elim
    · have _q := h6
      refine jx_ld (pc_q := 33) (l_q := L) (st_q := [rv (me)]) rfl (jl_rvn gL_0) ?_
      refine cx_gr (pc_q := 36) (c := 8) (q := 1) (v := sc) rfl rfl (by decide) (by decide) rfl rfl ho2.1 ho2.2 ((show Fx (me) (1 : Int) = F (me) (1 : Int) from hMx _ _ o_me (own_z o_me) (by rw [t_me]; rfl)).trans e_sc) ?_
      refine cx_gi (pc_q := 39) (c := 10) (q := 14) (v := Fx (sc) (14 : Int)) rfl rfl (by decide) (by decide) (Or.inl rfl) rfl ho3.1 ho3.2 rfl ?_
      have b439 : (-2 : Int) ≤ Fx (sc) (14 : Int) ∧ Fx (sc) (14 : Int) ≤ 15 := by have z := HC_i (c := 10) (q := 14) hCx ho3.1 ho3.2 (by decide) rfl; rw [show Fx (sc) ((14 : Nat) : Int) = Fx (sc) (14 : Int) from rfl] at z; exact z
      refine jx_if_ne (pc_q := 42) (tg := 64) rfl rfl rfl (by omega) (by omega) (fun h440 => ?_) (fun h440 => ?_)
      · have _q := h440
        refine jx_ld (pc_q := 65) (l_q := L) (st_q := [rv (me)]) rfl (jl_rvn gL_0) ?_
        refine cx_gr (pc_q := 68) (c := 8) (q := 1) (v := sc) rfl rfl (by decide) (by decide) rfl rfl ho2.1 ho2.2 ((show Fx (me) (1 : Int) = F (me) (1 : Int) from hMx _ _ o_me (own_z o_me) (by rw [t_me]; rfl)).trans e_sc) ?_
        refine cx_gi (pc_q := 71) (c := 10) (q := 14) (v := Fx (sc) (14 : Int)) rfl rfl (by decide) (by decide) (Or.inl rfl) rfl ho3.1 ho3.2 rfl ?_
        refine jx_if_ne (pc_q := 74) (tg := 105) rfl rfl rfl (by omega) (by omega) (fun h441 => ?_) (fun h441 => ?_)
        · have _q := h441
          refine jx_ld (pc_q := 106) (l_q := L) (st_q := [rv (me)]) rfl (jl_rvn gL_0) ?_
          refine cx_gr (pc_q := 109) (c := 8) (q := 0) (v := pg) rfl rfl (by decide) (by decide) rfl rfl ho2.1 ho2.2 ((show Fx (me) (0 : Int) = F (me) (0 : Int) from hMx _ _ o_me (own_z o_me) (by rw [t_me]; rfl)).trans e_pg) ?_
          refine cx_gr (pc_q := 112) (c := 9) (q := 3) (v := F (pg) (3 : Int)) rfl rfl (by decide) (by decide) rfl rfl ho4.1 ho4.2 (show Fx (pg) (3 : Int) = F (pg) (3 : Int) from hMx _ _ o_pg (own_z o_pg) (by rw [t_pg]; rfl)) ?_
          have y442 : own mx (F (pg) (3 : Int)) ∧ tgx (F (pg) (3 : Int)) = 24 ∧ ((6 : Int) ≠ 0 → lnx (F (pg) (3 : Int)) = 6) := by have z := HC_n (c := 9) (q := 3) hCx ho4.1 ho4.2 (own_z ho4.1) (by decide) rfl; rw [show Fx (pg) ((3 : Nat) : Int) = F (pg) (3 : Int) from (show Fx (pg) (3 : Int) = F (pg) (3 : Int) from hMx _ _ o_pg (own_z o_pg) (by rw [t_pg]; rfl))] at z; exact ⟨z.1, z.2.1, z.2.2.1⟩
          have ly442 : lnx (F (pg) (3 : Int)) = 6 := y442.2.2 (by decide)
          refine jx_ar (pc_q := 113) (st_q := [.int (i32 (0)), rv (F (pg) (3 : Int))]) rfl rfl rfl rfl ?_
          refine jx_ld (pc_q := 114) (l_q := L) (st_q := [rv (me), .int (i32 (0)), rv (F (pg) (3 : Int))]) rfl (jl_rvn gL_0) ?_
          refine jx_ar (pc_q := 115) (st_q := [.int (i32 (0)), rv (me), .int (i32 (0)), rv (F (pg) (3 : Int))]) rfl rfl rfl rfl ?_
          have q443 := tz_b (Fx (sc) (15 : Int))
          have q444 : Fx (sc) (7 : Int) = F (sc) (7 : Int) := (show Fx (sc) (7 : Int) = F (sc) (7 : Int) from hMx _ _ o_sc (own_z o_sc) (by rw [t_sc]; rfl))
          have q445 := lz_b (Fx (sc) (14 : Int))
          refine cx_vi (c := 8) (a := me) (st := [.int (i32 (0)), rv (F (pg) (3 : Int))]) (as := [.int (i32 (0))]) rfl rfl rfl ho2.1 ho2.2 (by decide) rfl ⟨rfl, rfl, (by rw [jS_i, jS_r, jS_0]; exact Nat.le_of_ble_eq_true rfl)⟩ rfl (PPx_all X 18 (dd := d) (R := R) (m := mx) (tg := tgx) (ln := lnx) (F := Fx) (me := me) (lv := 0) (hd := by omega) (hC := hCx) (o_me := ho2.1) (t_me := ho2.2) (h_lv := by omega) (sc := sc) (pg := pg) (o_sc := ho3.1) (t_sc := ho3.2) (e_sc := ((show Fx (me) (1 : Int) = F (me) (1 : Int) from hMx _ _ o_me (own_z o_me) (by rw [t_me]; rfl)).trans e_sc)) (o_pg := ho4.1) (t_pg := ho4.2) (e_pg := ((show Fx (me) (0 : Int) = F (me) (0 : Int) from hMx _ _ o_me (own_z o_me) (by rw [t_me]; rfl)).trans e_pg)) (p_0 := by omega) (p_1 := by omega) (p_2 := by omega) (p_3 := by omega) (c_NP := cx_NP)) (fun o V_q hq => ?_)
          obtain ⟨m446, tg446, ln446, F447, r448, rfl, rfl, hx449, hC450, hM451, b452, p453, p454, p455, p456, p457, p458, p459, p460, p461, p462, p463, p464, c465, c466, -⟩ | ⟨m467, tg467, ln467, F467, x467, rfl, rfl, hx467, hC467, hM467, ho467, ht467, p468, p469, p470, p471, c472, c473, -⟩ := hq
          rotate_left
          ·
            have c474 : NM m m467 tg467 := NM_t cx_NM hx467 c473
            have lm475 := hx467.1
            refine Or.inr (Or.inr (Or.inl ⟨_, _, 136, rfl, cx_exc (c := 15) ho467 ht467 (by decide), rfl, ?_⟩))
            rw [← rv_x ho467]
            have hM476 := Fq_t (ln := ln) (ln1 := lnx) hMx hXx hM467 (by decide) (Or.inl rfl)
            have lm477 := hx467.1
            have ho478 : own m467 (me) ∧ tg467 (me) = 9 := Ex_o hx467 ⟨ho2.1, ho2.2⟩
            have ho479 : own m467 (sc) ∧ tg467 (sc) = 11 := Ex_o hx467 ⟨ho3.1, ho3.2⟩
            have ho480 : own m467 (pg) ∧ tg467 (pg) = 10 := Ex_o hx467 ⟨ho4.1, ho4.2⟩
            have hX481 := Ex_t hXx hx467
            refine jx_ld (pc_q := 137) (l_q := jSto1 L 1 (rv (((x467 : Nat) : Int)))) (st_q := []) rfl (js_rvn (by decide)) ?_
            obtain ⟨L482, eL482⟩ : ∃ q : jL, q = jSto1 L 1 (rv (((x467 : Nat) : Int))) := ⟨_, rfl⟩
            rw [← eL482]
            have g483 : jGet L482 0 = some (rv (me)) := eL482 ▸ jg_nr (by decide) gL_0
            have g484 : jGet L482 1 = some (rv (((x467 : Nat) : Int))) := eL482 ▸ jg_eq
            clear eL482
            refine jx_ld (pc_q := 138) (l_q := L482) (st_q := [rv (me)]) rfl (jl_rvn g483) ?_
            refine jx_ar (pc_q := 139) (st_q := .null :: [rv (me)]) rfl rfl rfl rfl ?_
            rw [← rv_0]
            refine cx_po (pc_q := 142) (c := 8) (q := 2) (qi := (2 : Int)) (z := 0) rfl rfl (by decide) (by decide) rfl rfl rfl (by decide) rfl ho478.1 ho478.2 rfl ?_
            obtain ⟨F485, eF485⟩ : ∃ q, q = uF F467 (me) (2 : Int) (0) := ⟨_, rfl⟩
            rw [← eF485]
            have hC486 : HC 0 m467 tg467 ln467 F485 := by rw [eF485]; exact HC_fr (c := 8) (q := 2) (by decide) hC467 ho478.2 (by decide) rfl (Or.inl rfl) ⟨fun w => absurd w (by decide), fun w => absurd w (by decide)⟩
            have hM487 : Fq 0 [(7, 15), (9, 2), (9, 3), (10, 0), (10, 1), (10, 2), (10, 5), (10, 7), (10, 8), (10, 9), (11, 8), (11, 12), (11, 13), (11, 14), (11, 15), (11, 16), (11, 17), (11, 18), (24, -5), (25, -5), (26, -5)] m tg F F485 := by rw [eF485]; exact Fq_p hM476 ho478.2 (fun w => (hX481.2 _ w).1) rfl
            have c488 : NP m467 tg467 F485 := by rw [eF485]; exact NP_u hC467 c472 ho478.2 (by omega)
            have tb489 := tz_b (F467 (sc) (15 : Int))
            refine jx_rt (v := none) rfl rfl rfl rfl rfl rfl ?_
            have q490 : F485 (sc) (7 : Int) = F (sc) (7 : Int) := ((show F485 (sc) (7 : Int) = F467 (sc) (7 : Int) from by rw [eF485]; exact uF_j (by decide)).trans ((show F467 (sc) (7 : Int) = Fx (sc) (7 : Int) from hM467 _ _ ho3.1 (own_z ho3.1) (by rw [ho3.2]; rfl)).trans (show Fx (sc) (7 : Int) = F (sc) (7 : Int) from hMx _ _ o_sc (own_z o_sc) (by rw [t_sc]; rfl))))
            have q491 : F485 (pg) (9 : Int) = F467 (pg) (9 : Int) := (show F485 (pg) (9 : Int) = F467 (pg) (9 : Int) from by rw [eF485]; exact uF_j (by decide))
            have q492 : F485 (pg) (3 : Int) = F (pg) (3 : Int) := ((show F485 (pg) (3 : Int) = F467 (pg) (3 : Int) from by rw [eF485]; exact uF_j (by decide)).trans ((show F467 (pg) (3 : Int) = Fx (pg) (3 : Int) from hM467 _ _ ho4.1 (own_z ho4.1) (by rw [ho4.2]; rfl)).trans (show Fx (pg) (3 : Int) = F (pg) (3 : Int) from hMx _ _ o_pg (own_z o_pg) (by rw [t_pg]; rfl))))
            have q493 : F485 (pg) (0 : Int) = F467 (pg) (0 : Int) := (show F485 (pg) (0 : Int) = F467 (pg) (0 : Int) from by rw [eF485]; exact uF_j (by decide))
            have q494 : F485 (pg) (9 : Int) = F467 (pg) (9 : Int) := q491
            exact ⟨m467, tg467, ln467, F485, rfl, rfl, hX481, hC486, hM487, by omega, by omega, by omega, (Or.inl (by omega)), c488, c474, trivial⟩
          have hM495 : Fq 0 [(7, 15), (9, 2), (9, 3), (10, 0), (10, 1), (10, 2), (10, 5), (10, 7), (10, 8), (10, 9), (11, 8), (11, 12), (11, 13), (11, 14), (11, 15), (11, 16), (11, 17), (11, 18), (24, -5), (25, -5), (26, -5)] m tg F F447 := Fq_t (ln := ln) (ln1 := lnx) hMx hXx hM451 (by decide) (Or.inl rfl)
          have lm496 := hx449.1
          have ho497 : own m446 (me) ∧ tg446 (me) = 9 := Ex_o hx449 ⟨ho2.1, ho2.2⟩
          have ho498 : own m446 (F (pg) (3 : Int)) ∧ tg446 (F (pg) (3 : Int)) = 24 := Ex_o hx449 ⟨y442.1, y442.2.1⟩
          have ho499 : own m446 (sc) ∧ tg446 (sc) = 11 := Ex_o hx449 ⟨ho3.1, ho3.2⟩
          have ho500 : own m446 (pg) ∧ tg446 (pg) = 10 := Ex_o hx449 ⟨ho4.1, ho4.2⟩
          have ln501 : ln446 (F (pg) (3 : Int)) = 6 := (hx449.2 _ y442.1).2.trans ly442
          have hX502 := Ex_t hXx hx449
          have c503 : NM m m446 tg446 := NM_t cx_NM hx449 c466
          have c504 : CR m446 tg446 F447 (F pg (3 : Int)) (0) := CR_x iv_9 hx449 hM451 rfl
          refine Or.inr (Or.inl ⟨_, rfl, ?_⟩)
          have b505 := HC_l hC450 ho498.1 ho498.2 (by decide)
          refine cx_aas (pc_q := 119) (c := 7) (z := 0) (y := r448) rfl rfl ho498.1 (by rw [ho498.2]; decide) (by omega) (by omega) (by omega) (fun hz => (Or.inr ⟨b452.1, b452.2⟩).resolve_left hz) (by decide) (by rw [ho498.2]; rfl) ?_
          obtain ⟨F506, eF506⟩ : ∃ q, q = uF F447 (F (pg) (3 : Int)) (0 : Int) (r448) := ⟨_, rfl⟩
          rw [← eF506]
          have hC507 : HC 0 m446 tg446 ln446 F506 := by rw [eF506]; exact HC_pa hC450 ho498.1 ho498.2 (by decide) (by omega) (Or.inr ⟨b452.1, b452.2⟩)
          have hM508 : Fq 0 [(7, 15), (9, 2), (9, 3), (10, 0), (10, 1), (10, 2), (10, 5), (10, 7), (10, 8), (10, 9), (11, 8), (11, 12), (11, 13), (11, 14), (11, 15), (11, 16), (11, 17), (11, 18), (24, -5), (25, -5), (26, -5)] m tg F F506 := by rw [eF506]; exact Fq_p hM495 ho498.2 (fun w => (hX502.2 _ w).1) (inL_a rfl (by omega) rfl)
          have c509 : NP m446 tg446 F506 := by rw [eF506]; exact NP_rt hC450 c465 ho498.2 (show F447 (F (pg) (3 : Int)) (-1) = 0 by have z := HC_n (c := 9) (q := 3) hC450 ho500.1 ho500.2 (own_z ho500.1) (by decide) rfl; rw [show F447 (pg) ((3 : Nat) : Int) = F (pg) (3 : Int) from ((show F447 (pg) (3 : Int) = Fx (pg) (3 : Int) from hM451 _ _ ho4.1 (own_z ho4.1) (by rw [ho4.2]; rfl)).trans (show Fx (pg) (3 : Int) = F (pg) (3 : Int) from hMx _ _ o_pg (own_z o_pg) (by rw [t_pg]; rfl)))] at z; exact z.2.2.2 (by decide)) (by omega) (SN_i b452.1 b452.2 (by omega) (by omega) (by omega))
          have c510 : CR m446 tg446 F506 (F pg (3 : Int)) ((0) + 1) := by rw [eF506]; exact CR_p c504
          have tb511 := tz_b (F447 (sc) (15 : Int))
          refine jx_ld (pc_q := 120) (l_q := L) (st_q := [rv (me)]) rfl (jl_rvn gL_0) ?_
          refine cx_gr (pc_q := 123) (c := 8) (q := 1) (v := sc) rfl rfl (by decide) (by decide) rfl rfl ho497.1 ho497.2 (((show F506 (me) (1 : Int) = F447 (me) (1 : Int) from by rw [eF506]; exact uF_j (by decide)).trans ((show F447 (me) (1 : Int) = Fx (me) (1 : Int) from hM451 _ _ ho2.1 (own_z ho2.1) (by rw [ho2.2]; rfl)).trans (show Fx (me) (1 : Int) = F (me) (1 : Int) from hMx _ _ o_me (own_z o_me) (by rw [t_me]; rfl)))).trans e_sc) ?_
          refine cx_gi (pc_q := 126) (c := 10) (q := 12) (v := F447 (sc) (12 : Int)) rfl rfl (by decide) (by decide) (Or.inr rfl) rfl ho499.1 ho499.2 (show F506 (sc) (12 : Int) = F447 (sc) (12 : Int) from by rw [eF506]; exact uF_j (by decide)) ?_
          have b512 : (0 : Int) ≤ F447 (sc) (12 : Int) ∧ F447 (sc) (12 : Int) ≤ 1 := by have z := HC_i (c := 10) (q := 12) hC507 ho499.1 ho499.2 (by decide) rfl; rw [show F506 (sc) ((12 : Nat) : Int) = F447 (sc) (12 : Int) from (show F506 (sc) (12 : Int) = F447 (sc) (12 : Int) from by rw [eF506]; exact uF_j (by decide))] at z; exact z
          refine jx_if_ne (pc_q := 129) (tg := 133) rfl rfl rfl (by omega) (by omega) (fun h513 => ?_) (fun h513 => ?_)
          · have _q := h513
            refine jx_go (tg := 142) rfl rfl ?_
            have tb514 := tz_b (F447 (sc) (15 : Int))
            refine jx_rt (v := none) rfl rfl rfl rfl rfl rfl ?_
            have q515 : F506 (sc) (7 : Int) = F (sc) (7 : Int) := ((show F506 (sc) (7 : Int) = F447 (sc) (7 : Int) from by rw [eF506]; exact uF_j (by decide)).trans ((show F447 (sc) (7 : Int) = Fx (sc) (7 : Int) from hM451 _ _ ho3.1 (own_z ho3.1) (by rw [ho3.2]; rfl)).trans (show Fx (sc) (7 : Int) = F (sc) (7 : Int) from hMx _ _ o_sc (own_z o_sc) (by rw [t_sc]; rfl))))
            have q516 : F506 (pg) (9 : Int) = F447 (pg) (9 : Int) := (show F506 (pg) (9 : Int) = F447 (pg) (9 : Int) from by rw [eF506]; exact uF_j (by decide))
            have q517 : F506 (pg) (3 : Int) = F (pg) (3 : Int) := ((show F506 (pg) (3 : Int) = F447 (pg) (3 : Int) from by rw [eF506]; exact uF_j (by decide)).trans ((show F447 (pg) (3 : Int) = Fx (pg) (3 : Int) from hM451 _ _ ho4.1 (own_z ho4.1) (by rw [ho4.2]; rfl)).trans (show Fx (pg) (3 : Int) = F (pg) (3 : Int) from hMx _ _ o_pg (own_z o_pg) (by rw [t_pg]; rfl))))
            have q518 : F506 (pg) (0 : Int) = F447 (pg) (0 : Int) := (show F506 (pg) (0 : Int) = F447 (pg) (0 : Int) from by rw [eF506]; exact uF_a (fun w => by have q1 := ho500.2; have q2 := ho498.2; rw [w, q2] at q1; exact absurd q1 (by decide)))
            have q519 : F506 (pg) (9 : Int) = F447 (pg) (9 : Int) := q516
            exact ⟨m446, tg446, ln446, F506, rfl, rfl, hX502, hC507, hM508, by omega, by omega, by omega, (Or.inr (by have z := c510.2.2; omega)), c509, c503, trivial⟩
          · have _q := h513
            refine jx_ld (pc_q := 130) (l_q := L) (st_q := [rv (me)]) rfl (jl_rvn gL_0) ?_
            have q520 : F506 (sc) (8 : Int) = F447 (sc) (8 : Int) := (show F506 (sc) (8 : Int) = F447 (sc) (8 : Int) from by rw [eF506]; exact uF_j (by decide))
            have q521 : F506 (sc) (7 : Int) = F (sc) (7 : Int) := ((show F506 (sc) (7 : Int) = F447 (sc) (7 : Int) from by rw [eF506]; exact uF_j (by decide)).trans ((show F447 (sc) (7 : Int) = Fx (sc) (7 : Int) from hM451 _ _ ho3.1 (own_z ho3.1) (by rw [ho3.2]; rfl)).trans (show Fx (sc) (7 : Int) = F (sc) (7 : Int) from hMx _ _ o_sc (own_z o_sc) (by rw [t_sc]; rfl))))
            refine cx_vi (c := 8) (a := me) (st := []) (as := []) rfl rfl rfl ho497.1 ho497.2 (by decide) rfl ⟨rfl, rfl, (Nat.le_of_ble_eq_true rfl)⟩ rfl (k_LParser_form (dd := d) (R := R) (m := m446) (tg := tg446) (ln := ln446) (F := F506) (me := me) (hd := by omega) (hC := hC507) (o_me := ho497.1) (t_me := ho497.2) (sc := sc) (pg := pg) (o_sc := ho499.1) (t_sc := ho499.2) (e_sc := (((show F506 (me) (1 : Int) = F447 (me) (1 : Int) from by rw [eF506]; exact uF_j (by decide)).trans ((show F447 (me) (1 : Int) = Fx (me) (1 : Int) from hM451 _ _ ho2.1 (own_z ho2.1) (by rw [ho2.2]; rfl)).trans (show Fx (me) (1 : Int) = F (me) (1 : Int) from hMx _ _ o_me (own_z o_me) (by rw [t_me]; rfl)))).trans e_sc)) (o_pg := ho500.1) (t_pg := ho500.2) (e_pg := (((show F506 (me) (0 : Int) = F447 (me) (0 : Int) from by rw [eF506]; exact uF_a (fun w => by have q1 := ho497.2; have q2 := ho498.2; rw [w, q2] at q1; exact absurd q1 (by decide))).trans ((show F447 (me) (0 : Int) = Fx (me) (0 : Int) from hM451 _ _ ho2.1 (own_z ho2.1) (by rw [ho2.2]; rfl)).trans (show Fx (me) (0 : Int) = F (me) (0 : Int) from hMx _ _ o_me (own_z o_me) (by rw [t_me]; rfl)))).trans e_pg)) (p_0 := by omega) (c_NP := c509)) (fun o V_q hq => ?_)
            obtain ⟨m522, tg522, ln522, F523, rfl, rfl, hx524, hC525, hM526, p527, c528, c529, -⟩ | ⟨m530, tg530, ln530, F530, x530, rfl, rfl, hx530, hC530, hM530, ho530, ht530, p531, p532, p533, p534, c535, c536, -⟩ := hq
            rotate_left
            ·
              have c537 : NM m m530 tg530 := NM_t c503 hx530 c536
              have lm538 := hx530.1
              refine Or.inr (Or.inr (Or.inl ⟨_, _, 136, rfl, cx_exc (c := 15) ho530 ht530 (by decide), rfl, ?_⟩))
              rw [← rv_x ho530]
              have hM539 := Fq_t (ln := ln) (ln1 := ln446) hM508 hX502 hM530 (by decide) (Or.inl rfl)
              have lm540 := hx530.1
              have ho541 : own m530 (me) ∧ tg530 (me) = 9 := Ex_o hx530 ⟨ho497.1, ho497.2⟩
              have ho542 : own m530 (sc) ∧ tg530 (sc) = 11 := Ex_o hx530 ⟨ho499.1, ho499.2⟩
              have ho543 : own m530 (pg) ∧ tg530 (pg) = 10 := Ex_o hx530 ⟨ho500.1, ho500.2⟩
              have hX544 := Ex_t hX502 hx530
              refine jx_ld (pc_q := 137) (l_q := jSto1 L 1 (rv (((x530 : Nat) : Int)))) (st_q := []) rfl (js_rvn (by decide)) ?_
              obtain ⟨L545, eL545⟩ : ∃ q : jL, q = jSto1 L 1 (rv (((x530 : Nat) : Int))) := ⟨_, rfl⟩
              rw [← eL545]
              have g546 : jGet L545 0 = some (rv (me)) := eL545 ▸ jg_nr (by decide) gL_0
              have g547 : jGet L545 1 = some (rv (((x530 : Nat) : Int))) := eL545 ▸ jg_eq
              clear eL545
              refine jx_ld (pc_q := 138) (l_q := L545) (st_q := [rv (me)]) rfl (jl_rvn g546) ?_
              refine jx_ar (pc_q := 139) (st_q := .null :: [rv (me)]) rfl rfl rfl rfl ?_
              rw [← rv_0]
              refine cx_po (pc_q := 142) (c := 8) (q := 2) (qi := (2 : Int)) (z := 0) rfl rfl (by decide) (by decide) rfl rfl rfl (by decide) rfl ho541.1 ho541.2 rfl ?_
              obtain ⟨F548, eF548⟩ : ∃ q, q = uF F530 (me) (2 : Int) (0) := ⟨_, rfl⟩
              rw [← eF548]
              have hC549 : HC 0 m530 tg530 ln530 F548 := by rw [eF548]; exact HC_fr (c := 8) (q := 2) (by decide) hC530 ho541.2 (by decide) rfl (Or.inl rfl) ⟨fun w => absurd w (by decide), fun w => absurd w (by decide)⟩
              have hM550 : Fq 0 [(7, 15), (9, 2), (9, 3), (10, 0), (10, 1), (10, 2), (10, 5), (10, 7), (10, 8), (10, 9), (11, 8), (11, 12), (11, 13), (11, 14), (11, 15), (11, 16), (11, 17), (11, 18), (24, -5), (25, -5), (26, -5)] m tg F F548 := by rw [eF548]; exact Fq_p hM539 ho541.2 (fun w => (hX544.2 _ w).1) rfl
              have c551 : NP m530 tg530 F548 := by rw [eF548]; exact NP_u hC530 c535 ho541.2 (by omega)
              have tb552 := tz_b (F447 (sc) (15 : Int))
              refine jx_rt (v := none) rfl rfl rfl rfl rfl rfl ?_
              have q553 : F548 (sc) (7 : Int) = F (sc) (7 : Int) := ((show F548 (sc) (7 : Int) = F530 (sc) (7 : Int) from by rw [eF548]; exact uF_j (by decide)).trans ((show F530 (sc) (7 : Int) = F506 (sc) (7 : Int) from hM530 _ _ ho499.1 (own_z ho499.1) (by rw [ho499.2]; rfl)).trans q521))
              have q554 : F548 (pg) (9 : Int) = F447 (pg) (9 : Int) := ((show F548 (pg) (9 : Int) = F530 (pg) (9 : Int) from by rw [eF548]; exact uF_j (by decide)).trans ((show F530 (pg) (9 : Int) = F506 (pg) (9 : Int) from hM530 _ _ ho500.1 (own_z ho500.1) (by rw [ho500.2]; rfl)).trans (show F506 (pg) (9 : Int) = F447 (pg) (9 : Int) from by rw [eF506]; exact uF_j (by decide))))
              have q555 : F548 (pg) (3 : Int) = F (pg) (3 : Int) := ((show F548 (pg) (3 : Int) = F530 (pg) (3 : Int) from by rw [eF548]; exact uF_j (by decide)).trans ((show F530 (pg) (3 : Int) = F506 (pg) (3 : Int) from hM530 _ _ ho500.1 (own_z ho500.1) (by rw [ho500.2]; rfl)).trans ((show F506 (pg) (3 : Int) = F447 (pg) (3 : Int) from by rw [eF506]; exact uF_j (by decide)).trans ((show F447 (pg) (3 : Int) = Fx (pg) (3 : Int) from hM451 _ _ ho4.1 (own_z ho4.1) (by rw [ho4.2]; rfl)).trans (show Fx (pg) (3 : Int) = F (pg) (3 : Int) from hMx _ _ o_pg (own_z o_pg) (by rw [t_pg]; rfl))))))
              have q556 : F548 (pg) (0 : Int) = F530 (pg) (0 : Int) := (show F548 (pg) (0 : Int) = F530 (pg) (0 : Int) from by rw [eF548]; exact uF_j (by decide))
              have q557 : F548 (pg) (9 : Int) = F447 (pg) (9 : Int) := q554
              exact ⟨m530, tg530, ln530, F548, rfl, rfl, hX544, hC549, hM550, by omega, by omega, by omega, (Or.inl (by omega)), c551, c537, trivial⟩
            exact p527.elim
        · have _q := h441
          have t558 : lz (Fx (sc) (14 : Int)) = 1 := lz_p (by omega)
          refine jx_ld (pc_q := 75) (l_q := L) (st_q := [rv (me)]) rfl (jl_rvn gL_0) ?_
          refine cx_gr (pc_q := 78) (c := 8) (q := 1) (v := sc) rfl rfl (by decide) (by decide) rfl rfl ho2.1 ho2.2 ((show Fx (me) (1 : Int) = F (me) (1 : Int) from hMx _ _ o_me (own_z o_me) (by rw [t_me]; rfl)).trans e_sc) ?_
          refine cx_gi (pc_q := 81) (c := 10) (q := 15) (v := Fx (sc) (15 : Int)) rfl rfl (by decide) (by decide) (Or.inl rfl) rfl ho3.1 ho3.2 rfl ?_
          have b559 : (-2147483648 : Int) ≤ Fx (sc) (15 : Int) ∧ Fx (sc) (15 : Int) ≤ 2147483647 := by have z := HC_i (c := 10) (q := 15) hCx ho3.1 ho3.2 (by decide) rfl; rw [show Fx (sc) ((15 : Nat) : Int) = Fx (sc) (15 : Int) from rfl] at z; exact z
          refine jx_ar (pc_q := 83) (st_q := [.int (i32 (30)), .int (i32 (Fx (sc) (15 : Int)))]) rfl rfl rfl rfl ?_
          refine jx_icmp_eq (pc_q := 86) (tg := 98) rfl rfl rfl (by omega) (by omega) (by decide) (by decide) (fun h560 => ?_) (fun h560 => ?_)
          · have _q := h560
            have t561 : tz (Fx (sc) (15 : Int)) = 1 := tz_p (by omega)
            refine jx_ld (pc_q := 99) (l_q := L) (st_q := [rv (me)]) rfl (jl_rvn gL_0) ?_
            have q562 := tz_b (Fx (sc) (15 : Int))
            have q563 : Fx (sc) (7 : Int) = F (sc) (7 : Int) := (show Fx (sc) (7 : Int) = F (sc) (7 : Int) from hMx _ _ o_sc (own_z o_sc) (by rw [t_sc]; rfl))
            have q564 := lz_b (Fx (sc) (14 : Int))
            refine cx_vi (c := 8) (a := me) (st := []) (as := []) rfl rfl rfl ho2.1 ho2.2 (by decide) rfl ⟨rfl, rfl, (Nat.le_of_ble_eq_true rfl)⟩ rfl (k_LParser_readPlaced (dd := d) (R := R) (m := mx) (tg := tgx) (ln := lnx) (F := Fx) (me := me) (hd := by omega) (hC := hCx) (o_me := ho2.1) (t_me := ho2.2) (sc := sc) (pg := pg) (o_sc := ho3.1) (t_sc := ho3.2) (e_sc := ((show Fx (me) (1 : Int) = F (me) (1 : Int) from hMx _ _ o_me (own_z o_me) (by rw [t_me]; rfl)).trans e_sc)) (o_pg := ho4.1) (t_pg := ho4.2) (e_pg := ((show Fx (me) (0 : Int) = F (me) (0 : Int) from hMx _ _ o_me (own_z o_me) (by rw [t_me]; rfl)).trans e_pg)) (p_0 := by omega) (p_1 := by omega) (c_NP := cx_NP) (cr := 0) (c_CR := CR_e iv_9 (show Fx (pg) (3 : Int) = F (pg) (3 : Int) from hMx _ _ o_pg (own_z o_pg) (by rw [t_pg]; rfl)))) (fun o V_q hq => ?_)
            obtain ⟨m565, tg565, ln565, F566, rfl, rfl, hx567, hC568, hM569, p570, p571, p572, p573, p574, p575, c576, c577, c578, -⟩ | ⟨m579, tg579, ln579, F579, x579, rfl, rfl, hx579, hC579, hM579, ho579, ht579, p580, p581, p582, p583, c584, c585, -⟩ := hq
            rotate_left
            ·
              have c586 : NM m m579 tg579 := NM_t cx_NM hx579 c585
              have lm587 := hx579.1
              refine Or.inr (Or.inr (Or.inl ⟨_, _, 136, rfl, cx_exc (c := 15) ho579 ht579 (by decide), rfl, ?_⟩))
              rw [← rv_x ho579]
              have hM588 := Fq_t (ln := ln) (ln1 := lnx) hMx hXx hM579 (by decide) (Or.inl rfl)
              have lm589 := hx579.1
              have ho590 : own m579 (me) ∧ tg579 (me) = 9 := Ex_o hx579 ⟨ho2.1, ho2.2⟩
              have ho591 : own m579 (sc) ∧ tg579 (sc) = 11 := Ex_o hx579 ⟨ho3.1, ho3.2⟩
              have ho592 : own m579 (pg) ∧ tg579 (pg) = 10 := Ex_o hx579 ⟨ho4.1, ho4.2⟩
              have hX593 := Ex_t hXx hx579
              refine jx_ld (pc_q := 137) (l_q := jSto1 L 1 (rv (((x579 : Nat) : Int)))) (st_q := []) rfl (js_rvn (by decide)) ?_
              obtain ⟨L594, eL594⟩ : ∃ q : jL, q = jSto1 L 1 (rv (((x579 : Nat) : Int))) := ⟨_, rfl⟩
              rw [← eL594]
              have g595 : jGet L594 0 = some (rv (me)) := eL594 ▸ jg_nr (by decide) gL_0
              have g596 : jGet L594 1 = some (rv (((x579 : Nat) : Int))) := eL594 ▸ jg_eq
              clear eL594
              refine jx_ld (pc_q := 138) (l_q := L594) (st_q := [rv (me)]) rfl (jl_rvn g595) ?_
              refine jx_ar (pc_q := 139) (st_q := .null :: [rv (me)]) rfl rfl rfl rfl ?_
              rw [← rv_0]
              refine cx_po (pc_q := 142) (c := 8) (q := 2) (qi := (2 : Int)) (z := 0) rfl rfl (by decide) (by decide) rfl rfl rfl (by decide) rfl ho590.1 ho590.2 rfl ?_
              obtain ⟨F597, eF597⟩ : ∃ q, q = uF F579 (me) (2 : Int) (0) := ⟨_, rfl⟩
              rw [← eF597]
              have hC598 : HC 0 m579 tg579 ln579 F597 := by rw [eF597]; exact HC_fr (c := 8) (q := 2) (by decide) hC579 ho590.2 (by decide) rfl (Or.inl rfl) ⟨fun w => absurd w (by decide), fun w => absurd w (by decide)⟩
              have hM599 : Fq 0 [(7, 15), (9, 2), (9, 3), (10, 0), (10, 1), (10, 2), (10, 5), (10, 7), (10, 8), (10, 9), (11, 8), (11, 12), (11, 13), (11, 14), (11, 15), (11, 16), (11, 17), (11, 18), (24, -5), (25, -5), (26, -5)] m tg F F597 := by rw [eF597]; exact Fq_p hM588 ho590.2 (fun w => (hX593.2 _ w).1) rfl
              have c600 : NP m579 tg579 F597 := by rw [eF597]; exact NP_u hC579 c584 ho590.2 (by omega)
              have tb601 := tz_b (F579 (sc) (15 : Int))
              refine jx_rt (v := none) rfl rfl rfl rfl rfl rfl ?_
              have q602 : F597 (sc) (7 : Int) = F (sc) (7 : Int) := ((show F597 (sc) (7 : Int) = F579 (sc) (7 : Int) from by rw [eF597]; exact uF_j (by decide)).trans ((show F579 (sc) (7 : Int) = Fx (sc) (7 : Int) from hM579 _ _ ho3.1 (own_z ho3.1) (by rw [ho3.2]; rfl)).trans (show Fx (sc) (7 : Int) = F (sc) (7 : Int) from hMx _ _ o_sc (own_z o_sc) (by rw [t_sc]; rfl))))
              have q603 : F597 (pg) (9 : Int) = F579 (pg) (9 : Int) := (show F597 (pg) (9 : Int) = F579 (pg) (9 : Int) from by rw [eF597]; exact uF_j (by decide))
              have q604 : F597 (pg) (3 : Int) = F (pg) (3 : Int) := ((show F597 (pg) (3 : Int) = F579 (pg) (3 : Int) from by rw [eF597]; exact uF_j (by decide)).trans ((show F579 (pg) (3 : Int) = Fx (pg) (3 : Int) from hM579 _ _ ho4.1 (own_z ho4.1) (by rw [ho4.2]; rfl)).trans (show Fx (pg) (3 : Int) = F (pg) (3 : Int) from hMx _ _ o_pg (own_z o_pg) (by rw [t_pg]; rfl))))
              have q605 : F597 (pg) (0 : Int) = F579 (pg) (0 : Int) := (show F597 (pg) (0 : Int) = F579 (pg) (0 : Int) from by rw [eF597]; exact uF_j (by decide))
              have q606 : F597 (pg) (9 : Int) = F579 (pg) (9 : Int) := q603
              exact ⟨m579, tg579, ln579, F597, rfl, rfl, hX593, hC598, hM599, by omega, by omega, by omega, (Or.inl (by omega)), c600, c586, trivial⟩
            have hM607 : Fq 0 [(7, 15), (9, 2), (9, 3), (10, 0), (10, 1), (10, 2), (10, 5), (10, 7), (10, 8), (10, 9), (11, 8), (11, 12), (11, 13), (11, 14), (11, 15), (11, 16), (11, 17), (11, 18), (24, -5), (25, -5), (26, -5)] m tg F F566 := Fq_t (ln := ln) (ln1 := lnx) hMx hXx hM569 (by decide) (Or.inl rfl)
            have lm608 := hx567.1
            have ho609 : own m565 (me) ∧ tg565 (me) = 9 := Ex_o hx567 ⟨ho2.1, ho2.2⟩
            have ho610 : own m565 (sc) ∧ tg565 (sc) = 11 := Ex_o hx567 ⟨ho3.1, ho3.2⟩
            have ho611 : own m565 (pg) ∧ tg565 (pg) = 10 := Ex_o hx567 ⟨ho4.1, ho4.2⟩
            have hX612 := Ex_t hXx hx567
            have c613 : NM m m565 tg565 := NM_t cx_NM hx567 c577
            have c614 : CR m565 tg565 F566 (F pg (3 : Int)) ((0) + (F566 sc (8 : Int) - Fx sc (8 : Int) - 3) / 4) := CR_e2 c578 (show Fx (pg) (3 : Int) = F (pg) (3 : Int) from hMx _ _ o_pg (own_z o_pg) (by rw [t_pg]; rfl))
            refine Or.inl ⟨rfl, ?_⟩
            refine jx_go (tg := 119) rfl rfl ?_
            have tb615 := tz_b (F566 (sc) (15 : Int))
            refine jx_ld (pc_q := 120) (l_q := L) (st_q := [rv (me)]) rfl (jl_rvn gL_0) ?_
            refine cx_gr (pc_q := 123) (c := 8) (q := 1) (v := sc) rfl rfl (by decide) (by decide) rfl rfl ho609.1 ho609.2 (((show F566 (me) (1 : Int) = Fx (me) (1 : Int) from hM569 _ _ ho2.1 (own_z ho2.1) (by rw [ho2.2]; rfl)).trans (show Fx (me) (1 : Int) = F (me) (1 : Int) from hMx _ _ o_me (own_z o_me) (by rw [t_me]; rfl))).trans e_sc) ?_
            refine cx_gi (pc_q := 126) (c := 10) (q := 12) (v := F566 (sc) (12 : Int)) rfl rfl (by decide) (by decide) (Or.inr rfl) rfl ho610.1 ho610.2 rfl ?_
            have b616 : (0 : Int) ≤ F566 (sc) (12 : Int) ∧ F566 (sc) (12 : Int) ≤ 1 := by have z := HC_i (c := 10) (q := 12) hC568 ho610.1 ho610.2 (by decide) rfl; rw [show F566 (sc) ((12 : Nat) : Int) = F566 (sc) (12 : Int) from rfl] at z; exact z
            refine jx_if_ne (pc_q := 129) (tg := 133) rfl rfl rfl (by omega) (by omega) (fun h617 => ?_) (fun h617 => ?_)
            · have _q := h617
              refine jx_go (tg := 142) rfl rfl ?_
              have tb618 := tz_b (F566 (sc) (15 : Int))
              refine jx_rt (v := none) rfl rfl rfl rfl rfl rfl ?_
              have q619 : F566 (sc) (7 : Int) = F (sc) (7 : Int) := ((show F566 (sc) (7 : Int) = Fx (sc) (7 : Int) from hM569 _ _ ho3.1 (own_z ho3.1) (by rw [ho3.2]; rfl)).trans (show Fx (sc) (7 : Int) = F (sc) (7 : Int) from hMx _ _ o_sc (own_z o_sc) (by rw [t_sc]; rfl)))
              have q620 : F566 (pg) (3 : Int) = F (pg) (3 : Int) := ((show F566 (pg) (3 : Int) = Fx (pg) (3 : Int) from hM569 _ _ ho4.1 (own_z ho4.1) (by rw [ho4.2]; rfl)).trans (show Fx (pg) (3 : Int) = F (pg) (3 : Int) from hMx _ _ o_pg (own_z o_pg) (by rw [t_pg]; rfl)))
              exact ⟨m565, tg565, ln565, F566, rfl, rfl, hX612, hC568, hM607, by omega, by omega, by omega, (Or.inr (by have z := c614.2.2; omega)), c576, c613, trivial⟩
            · have _q := h617
              refine jx_ld (pc_q := 130) (l_q := L) (st_q := [rv (me)]) rfl (jl_rvn gL_0) ?_
              have q621 : F566 (sc) (7 : Int) = F (sc) (7 : Int) := ((show F566 (sc) (7 : Int) = Fx (sc) (7 : Int) from hM569 _ _ ho3.1 (own_z ho3.1) (by rw [ho3.2]; rfl)).trans (show Fx (sc) (7 : Int) = F (sc) (7 : Int) from hMx _ _ o_sc (own_z o_sc) (by rw [t_sc]; rfl)))
              refine cx_vi (c := 8) (a := me) (st := []) (as := []) rfl rfl rfl ho609.1 ho609.2 (by decide) rfl ⟨rfl, rfl, (Nat.le_of_ble_eq_true rfl)⟩ rfl (k_LParser_form (dd := d) (R := R) (m := m565) (tg := tg565) (ln := ln565) (F := F566) (me := me) (hd := by omega) (hC := hC568) (o_me := ho609.1) (t_me := ho609.2) (sc := sc) (pg := pg) (o_sc := ho610.1) (t_sc := ho610.2) (e_sc := (((show F566 (me) (1 : Int) = Fx (me) (1 : Int) from hM569 _ _ ho2.1 (own_z ho2.1) (by rw [ho2.2]; rfl)).trans (show Fx (me) (1 : Int) = F (me) (1 : Int) from hMx _ _ o_me (own_z o_me) (by rw [t_me]; rfl))).trans e_sc)) (o_pg := ho611.1) (t_pg := ho611.2) (e_pg := (((show F566 (me) (0 : Int) = Fx (me) (0 : Int) from hM569 _ _ ho2.1 (own_z ho2.1) (by rw [ho2.2]; rfl)).trans (show Fx (me) (0 : Int) = F (me) (0 : Int) from hMx _ _ o_me (own_z o_me) (by rw [t_me]; rfl))).trans e_pg)) (p_0 := by omega) (c_NP := c576)) (fun o V_q hq => ?_)
              obtain ⟨m622, tg622, ln622, F623, rfl, rfl, hx624, hC625, hM626, p627, c628, c629, -⟩ | ⟨m630, tg630, ln630, F630, x630, rfl, rfl, hx630, hC630, hM630, ho630, ht630, p631, p632, p633, p634, c635, c636, -⟩ := hq
              rotate_left
              ·
                have c637 : NM m m630 tg630 := NM_t c613 hx630 c636
                have lm638 := hx630.1
                refine Or.inr (Or.inr (Or.inl ⟨_, _, 136, rfl, cx_exc (c := 15) ho630 ht630 (by decide), rfl, ?_⟩))
                rw [← rv_x ho630]
                have hM639 := Fq_t (ln := ln) (ln1 := ln565) hM607 hX612 hM630 (by decide) (Or.inl rfl)
                have lm640 := hx630.1
                have ho641 : own m630 (me) ∧ tg630 (me) = 9 := Ex_o hx630 ⟨ho609.1, ho609.2⟩
                have ho642 : own m630 (sc) ∧ tg630 (sc) = 11 := Ex_o hx630 ⟨ho610.1, ho610.2⟩
                have ho643 : own m630 (pg) ∧ tg630 (pg) = 10 := Ex_o hx630 ⟨ho611.1, ho611.2⟩
                have hX644 := Ex_t hX612 hx630
                refine jx_ld (pc_q := 137) (l_q := jSto1 L 1 (rv (((x630 : Nat) : Int)))) (st_q := []) rfl (js_rvn (by decide)) ?_
                obtain ⟨L645, eL645⟩ : ∃ q : jL, q = jSto1 L 1 (rv (((x630 : Nat) : Int))) := ⟨_, rfl⟩
                rw [← eL645]
                have g646 : jGet L645 0 = some (rv (me)) := eL645 ▸ jg_nr (by decide) gL_0
                have g647 : jGet L645 1 = some (rv (((x630 : Nat) : Int))) := eL645 ▸ jg_eq
                clear eL645
                refine jx_ld (pc_q := 138) (l_q := L645) (st_q := [rv (me)]) rfl (jl_rvn g646) ?_
                refine jx_ar (pc_q := 139) (st_q := .null :: [rv (me)]) rfl rfl rfl rfl ?_
                rw [← rv_0]
                refine cx_po (pc_q := 142) (c := 8) (q := 2) (qi := (2 : Int)) (z := 0) rfl rfl (by decide) (by decide) rfl rfl rfl (by decide) rfl ho641.1 ho641.2 rfl ?_
                obtain ⟨F648, eF648⟩ : ∃ q, q = uF F630 (me) (2 : Int) (0) := ⟨_, rfl⟩
                rw [← eF648]
                have hC649 : HC 0 m630 tg630 ln630 F648 := by rw [eF648]; exact HC_fr (c := 8) (q := 2) (by decide) hC630 ho641.2 (by decide) rfl (Or.inl rfl) ⟨fun w => absurd w (by decide), fun w => absurd w (by decide)⟩
                have hM650 : Fq 0 [(7, 15), (9, 2), (9, 3), (10, 0), (10, 1), (10, 2), (10, 5), (10, 7), (10, 8), (10, 9), (11, 8), (11, 12), (11, 13), (11, 14), (11, 15), (11, 16), (11, 17), (11, 18), (24, -5), (25, -5), (26, -5)] m tg F F648 := by rw [eF648]; exact Fq_p hM639 ho641.2 (fun w => (hX644.2 _ w).1) rfl
                have c651 : NP m630 tg630 F648 := by rw [eF648]; exact NP_u hC630 c635 ho641.2 (by omega)
                have tb652 := tz_b (F566 (sc) (15 : Int))
                refine jx_rt (v := none) rfl rfl rfl rfl rfl rfl ?_
                have q653 : F648 (sc) (7 : Int) = F (sc) (7 : Int) := ((show F648 (sc) (7 : Int) = F630 (sc) (7 : Int) from by rw [eF648]; exact uF_j (by decide)).trans ((show F630 (sc) (7 : Int) = F566 (sc) (7 : Int) from hM630 _ _ ho610.1 (own_z ho610.1) (by rw [ho610.2]; rfl)).trans q621))
                have q654 : F648 (pg) (9 : Int) = F566 (pg) (9 : Int) := ((show F648 (pg) (9 : Int) = F630 (pg) (9 : Int) from by rw [eF648]; exact uF_j (by decide)).trans (show F630 (pg) (9 : Int) = F566 (pg) (9 : Int) from hM630 _ _ ho611.1 (own_z ho611.1) (by rw [ho611.2]; rfl)))
                have q655 : F648 (pg) (3 : Int) = F (pg) (3 : Int) := ((show F648 (pg) (3 : Int) = F630 (pg) (3 : Int) from by rw [eF648]; exact uF_j (by decide)).trans ((show F630 (pg) (3 : Int) = F566 (pg) (3 : Int) from hM630 _ _ ho611.1 (own_z ho611.1) (by rw [ho611.2]; rfl)).trans ((show F566 (pg) (3 : Int) = Fx (pg) (3 : Int) from hM569 _ _ ho4.1 (own_z ho4.1) (by rw [ho4.2]; rfl)).trans (show Fx (pg) (3 : Int) = F (pg) (3 : Int) from hMx _ _ o_pg (own_z o_pg) (by rw [t_pg]; rfl)))))
                have q656 : F648 (pg) (0 : Int) = F630 (pg) (0 : Int) := (show F648 (pg) (0 : Int) = F630 (pg) (0 : Int) from by rw [eF648]; exact uF_j (by decide))
                have q657 : F648 (pg) (9 : Int) = F566 (pg) (9 : Int) := q654
                exact ⟨m630, tg630, ln630, F648, rfl, rfl, hX644, hC649, hM650, by omega, by omega, by omega, (Or.inl (by omega)), c651, c637, trivial⟩
              exact p627.elim
          · have _q := h560
            refine jx_ld (pc_q := 87) (l_q := L) (st_q := [rv (me)]) rfl (jl_rvn gL_0) ?_
            refine cx_gr (pc_q := 90) (c := 8) (q := 1) (v := sc) rfl rfl (by decide) (by decide) rfl rfl ho2.1 ho2.2 ((show Fx (me) (1 : Int) = F (me) (1 : Int) from hMx _ _ o_me (own_z o_me) (by rw [t_me]; rfl)).trans e_sc) ?_
            refine cx_gi (pc_q := 93) (c := 10) (q := 15) (v := Fx (sc) (15 : Int)) rfl rfl (by decide) (by decide) (Or.inl rfl) rfl ho3.1 ho3.2 rfl ?_
            refine jx_ar (pc_q := 95) (st_q := [.int (i32 (28)), .int (i32 (Fx (sc) (15 : Int)))]) rfl rfl rfl rfl ?_
            refine jx_icmp_ne (pc_q := 98) (tg := 105) rfl rfl rfl (by omega) (by omega) (by decide) (by decide) (fun h658 => ?_) (fun h658 => ?_)
            · have _q := h658
              refine jx_ld (pc_q := 106) (l_q := L) (st_q := [rv (me)]) rfl (jl_rvn gL_0) ?_
              refine cx_gr (pc_q := 109) (c := 8) (q := 0) (v := pg) rfl rfl (by decide) (by decide) rfl rfl ho2.1 ho2.2 ((show Fx (me) (0 : Int) = F (me) (0 : Int) from hMx _ _ o_me (own_z o_me) (by rw [t_me]; rfl)).trans e_pg) ?_
              refine cx_gr (pc_q := 112) (c := 9) (q := 3) (v := F (pg) (3 : Int)) rfl rfl (by decide) (by decide) rfl rfl ho4.1 ho4.2 (show Fx (pg) (3 : Int) = F (pg) (3 : Int) from hMx _ _ o_pg (own_z o_pg) (by rw [t_pg]; rfl)) ?_
              have y659 : own mx (F (pg) (3 : Int)) ∧ tgx (F (pg) (3 : Int)) = 24 ∧ ((6 : Int) ≠ 0 → lnx (F (pg) (3 : Int)) = 6) := by have z := HC_n (c := 9) (q := 3) hCx ho4.1 ho4.2 (own_z ho4.1) (by decide) rfl; rw [show Fx (pg) ((3 : Nat) : Int) = F (pg) (3 : Int) from (show Fx (pg) (3 : Int) = F (pg) (3 : Int) from hMx _ _ o_pg (own_z o_pg) (by rw [t_pg]; rfl))] at z; exact ⟨z.1, z.2.1, z.2.2.1⟩
              have ly659 : lnx (F (pg) (3 : Int)) = 6 := y659.2.2 (by decide)
              refine jx_ar (pc_q := 113) (st_q := [.int (i32 (0)), rv (F (pg) (3 : Int))]) rfl rfl rfl rfl ?_
              refine jx_ld (pc_q := 114) (l_q := L) (st_q := [rv (me), .int (i32 (0)), rv (F (pg) (3 : Int))]) rfl (jl_rvn gL_0) ?_
              refine jx_ar (pc_q := 115) (st_q := [.int (i32 (0)), rv (me), .int (i32 (0)), rv (F (pg) (3 : Int))]) rfl rfl rfl rfl ?_
              have q660 := tz_b (Fx (sc) (15 : Int))
              have q661 : Fx (sc) (7 : Int) = F (sc) (7 : Int) := (show Fx (sc) (7 : Int) = F (sc) (7 : Int) from hMx _ _ o_sc (own_z o_sc) (by rw [t_sc]; rfl))
              have q662 := lz_b (Fx (sc) (14 : Int))
              refine cx_vi (c := 8) (a := me) (st := [.int (i32 (0)), rv (F (pg) (3 : Int))]) (as := [.int (i32 (0))]) rfl rfl rfl ho2.1 ho2.2 (by decide) rfl ⟨rfl, rfl, (by rw [jS_i, jS_r, jS_0]; exact Nat.le_of_ble_eq_true rfl)⟩ rfl (PPx_all X 18 (dd := d) (R := R) (m := mx) (tg := tgx) (ln := lnx) (F := Fx) (me := me) (lv := 0) (hd := by omega) (hC := hCx) (o_me := ho2.1) (t_me := ho2.2) (h_lv := by omega) (sc := sc) (pg := pg) (o_sc := ho3.1) (t_sc := ho3.2) (e_sc := ((show Fx (me) (1 : Int) = F (me) (1 : Int) from hMx _ _ o_me (own_z o_me) (by rw [t_me]; rfl)).trans e_sc)) (o_pg := ho4.1) (t_pg := ho4.2) (e_pg := ((show Fx (me) (0 : Int) = F (me) (0 : Int) from hMx _ _ o_me (own_z o_me) (by rw [t_me]; rfl)).trans e_pg)) (p_0 := by omega) (p_1 := by omega) (p_2 := by omega) (p_3 := by omega) (c_NP := cx_NP)) (fun o V_q hq => ?_)
              obtain ⟨m663, tg663, ln663, F664, r665, rfl, rfl, hx666, hC667, hM668, b669, p670, p671, p672, p673, p674, p675, p676, p677, p678, p679, p680, p681, c682, c683, -⟩ | ⟨m684, tg684, ln684, F684, x684, rfl, rfl, hx684, hC684, hM684, ho684, ht684, p685, p686, p687, p688, c689, c690, -⟩ := hq
              rotate_left
              ·
                have c691 : NM m m684 tg684 := NM_t cx_NM hx684 c690
                have lm692 := hx684.1
                refine Or.inr (Or.inr (Or.inl ⟨_, _, 136, rfl, cx_exc (c := 15) ho684 ht684 (by decide), rfl, ?_⟩))
                rw [← rv_x ho684]
                have hM693 := Fq_t (ln := ln) (ln1 := lnx) hMx hXx hM684 (by decide) (Or.inl rfl)
                have lm694 := hx684.1
                have ho695 : own m684 (me) ∧ tg684 (me) = 9 := Ex_o hx684 ⟨ho2.1, ho2.2⟩
                have ho696 : own m684 (sc) ∧ tg684 (sc) = 11 := Ex_o hx684 ⟨ho3.1, ho3.2⟩
                have ho697 : own m684 (pg) ∧ tg684 (pg) = 10 := Ex_o hx684 ⟨ho4.1, ho4.2⟩
                have hX698 := Ex_t hXx hx684
                refine jx_ld (pc_q := 137) (l_q := jSto1 L 1 (rv (((x684 : Nat) : Int)))) (st_q := []) rfl (js_rvn (by decide)) ?_
                obtain ⟨L699, eL699⟩ : ∃ q : jL, q = jSto1 L 1 (rv (((x684 : Nat) : Int))) := ⟨_, rfl⟩
                rw [← eL699]
                have g700 : jGet L699 0 = some (rv (me)) := eL699 ▸ jg_nr (by decide) gL_0
                have g701 : jGet L699 1 = some (rv (((x684 : Nat) : Int))) := eL699 ▸ jg_eq
                clear eL699
                refine jx_ld (pc_q := 138) (l_q := L699) (st_q := [rv (me)]) rfl (jl_rvn g700) ?_
                refine jx_ar (pc_q := 139) (st_q := .null :: [rv (me)]) rfl rfl rfl rfl ?_
                rw [← rv_0]
                refine cx_po (pc_q := 142) (c := 8) (q := 2) (qi := (2 : Int)) (z := 0) rfl rfl (by decide) (by decide) rfl rfl rfl (by decide) rfl ho695.1 ho695.2 rfl ?_
                obtain ⟨F702, eF702⟩ : ∃ q, q = uF F684 (me) (2 : Int) (0) := ⟨_, rfl⟩
                rw [← eF702]
                have hC703 : HC 0 m684 tg684 ln684 F702 := by rw [eF702]; exact HC_fr (c := 8) (q := 2) (by decide) hC684 ho695.2 (by decide) rfl (Or.inl rfl) ⟨fun w => absurd w (by decide), fun w => absurd w (by decide)⟩
                have hM704 : Fq 0 [(7, 15), (9, 2), (9, 3), (10, 0), (10, 1), (10, 2), (10, 5), (10, 7), (10, 8), (10, 9), (11, 8), (11, 12), (11, 13), (11, 14), (11, 15), (11, 16), (11, 17), (11, 18), (24, -5), (25, -5), (26, -5)] m tg F F702 := by rw [eF702]; exact Fq_p hM693 ho695.2 (fun w => (hX698.2 _ w).1) rfl
                have c705 : NP m684 tg684 F702 := by rw [eF702]; exact NP_u hC684 c689 ho695.2 (by omega)
                have tb706 := tz_b (F684 (sc) (15 : Int))
                refine jx_rt (v := none) rfl rfl rfl rfl rfl rfl ?_
                have q707 : F702 (sc) (7 : Int) = F (sc) (7 : Int) := ((show F702 (sc) (7 : Int) = F684 (sc) (7 : Int) from by rw [eF702]; exact uF_j (by decide)).trans ((show F684 (sc) (7 : Int) = Fx (sc) (7 : Int) from hM684 _ _ ho3.1 (own_z ho3.1) (by rw [ho3.2]; rfl)).trans (show Fx (sc) (7 : Int) = F (sc) (7 : Int) from hMx _ _ o_sc (own_z o_sc) (by rw [t_sc]; rfl))))
                have q708 : F702 (pg) (9 : Int) = F684 (pg) (9 : Int) := (show F702 (pg) (9 : Int) = F684 (pg) (9 : Int) from by rw [eF702]; exact uF_j (by decide))
                have q709 : F702 (pg) (3 : Int) = F (pg) (3 : Int) := ((show F702 (pg) (3 : Int) = F684 (pg) (3 : Int) from by rw [eF702]; exact uF_j (by decide)).trans ((show F684 (pg) (3 : Int) = Fx (pg) (3 : Int) from hM684 _ _ ho4.1 (own_z ho4.1) (by rw [ho4.2]; rfl)).trans (show Fx (pg) (3 : Int) = F (pg) (3 : Int) from hMx _ _ o_pg (own_z o_pg) (by rw [t_pg]; rfl))))
                have q710 : F702 (pg) (0 : Int) = F684 (pg) (0 : Int) := (show F702 (pg) (0 : Int) = F684 (pg) (0 : Int) from by rw [eF702]; exact uF_j (by decide))
                have q711 : F702 (pg) (9 : Int) = F684 (pg) (9 : Int) := q708
                exact ⟨m684, tg684, ln684, F702, rfl, rfl, hX698, hC703, hM704, by omega, by omega, by omega, (Or.inl (by omega)), c705, c691, trivial⟩
              have hM712 : Fq 0 [(7, 15), (9, 2), (9, 3), (10, 0), (10, 1), (10, 2), (10, 5), (10, 7), (10, 8), (10, 9), (11, 8), (11, 12), (11, 13), (11, 14), (11, 15), (11, 16), (11, 17), (11, 18), (24, -5), (25, -5), (26, -5)] m tg F F664 := Fq_t (ln := ln) (ln1 := lnx) hMx hXx hM668 (by decide) (Or.inl rfl)
              have lm713 := hx666.1
              have ho714 : own m663 (me) ∧ tg663 (me) = 9 := Ex_o hx666 ⟨ho2.1, ho2.2⟩
              have ho715 : own m663 (F (pg) (3 : Int)) ∧ tg663 (F (pg) (3 : Int)) = 24 := Ex_o hx666 ⟨y659.1, y659.2.1⟩
              have ho716 : own m663 (sc) ∧ tg663 (sc) = 11 := Ex_o hx666 ⟨ho3.1, ho3.2⟩
              have ho717 : own m663 (pg) ∧ tg663 (pg) = 10 := Ex_o hx666 ⟨ho4.1, ho4.2⟩
              have ln718 : ln663 (F (pg) (3 : Int)) = 6 := (hx666.2 _ y659.1).2.trans ly659
              have hX719 := Ex_t hXx hx666
              have c720 : NM m m663 tg663 := NM_t cx_NM hx666 c683
              have c721 : CR m663 tg663 F664 (F pg (3 : Int)) (0) := CR_x iv_9 hx666 hM668 rfl
              refine Or.inr (Or.inl ⟨_, rfl, ?_⟩)
              have b722 := HC_l hC667 ho715.1 ho715.2 (by decide)
              refine cx_aas (pc_q := 119) (c := 7) (z := 0) (y := r665) rfl rfl ho715.1 (by rw [ho715.2]; decide) (by omega) (by omega) (by omega) (fun hz => (Or.inr ⟨b669.1, b669.2⟩).resolve_left hz) (by decide) (by rw [ho715.2]; rfl) ?_
              obtain ⟨F723, eF723⟩ : ∃ q, q = uF F664 (F (pg) (3 : Int)) (0 : Int) (r665) := ⟨_, rfl⟩
              rw [← eF723]
              have hC724 : HC 0 m663 tg663 ln663 F723 := by rw [eF723]; exact HC_pa hC667 ho715.1 ho715.2 (by decide) (by omega) (Or.inr ⟨b669.1, b669.2⟩)
              have hM725 : Fq 0 [(7, 15), (9, 2), (9, 3), (10, 0), (10, 1), (10, 2), (10, 5), (10, 7), (10, 8), (10, 9), (11, 8), (11, 12), (11, 13), (11, 14), (11, 15), (11, 16), (11, 17), (11, 18), (24, -5), (25, -5), (26, -5)] m tg F F723 := by rw [eF723]; exact Fq_p hM712 ho715.2 (fun w => (hX719.2 _ w).1) (inL_a rfl (by omega) rfl)
              have c726 : NP m663 tg663 F723 := by rw [eF723]; exact NP_rt hC667 c682 ho715.2 (show F664 (F (pg) (3 : Int)) (-1) = 0 by have z := HC_n (c := 9) (q := 3) hC667 ho717.1 ho717.2 (own_z ho717.1) (by decide) rfl; rw [show F664 (pg) ((3 : Nat) : Int) = F (pg) (3 : Int) from ((show F664 (pg) (3 : Int) = Fx (pg) (3 : Int) from hM668 _ _ ho4.1 (own_z ho4.1) (by rw [ho4.2]; rfl)).trans (show Fx (pg) (3 : Int) = F (pg) (3 : Int) from hMx _ _ o_pg (own_z o_pg) (by rw [t_pg]; rfl)))] at z; exact z.2.2.2 (by decide)) (by omega) (SN_i b669.1 b669.2 (by omega) (by omega) (by omega))
              have c727 : CR m663 tg663 F723 (F pg (3 : Int)) ((0) + 1) := by rw [eF723]; exact CR_p c721
              have tb728 := tz_b (F664 (sc) (15 : Int))
              refine jx_ld (pc_q := 120) (l_q := L) (st_q := [rv (me)]) rfl (jl_rvn gL_0) ?_
              refine cx_gr (pc_q := 123) (c := 8) (q := 1) (v := sc) rfl rfl (by decide) (by decide) rfl rfl ho714.1 ho714.2 (((show F723 (me) (1 : Int) = F664 (me) (1 : Int) from by rw [eF723]; exact uF_j (by decide)).trans ((show F664 (me) (1 : Int) = Fx (me) (1 : Int) from hM668 _ _ ho2.1 (own_z ho2.1) (by rw [ho2.2]; rfl)).trans (show Fx (me) (1 : Int) = F (me) (1 : Int) from hMx _ _ o_me (own_z o_me) (by rw [t_me]; rfl)))).trans e_sc) ?_
              refine cx_gi (pc_q := 126) (c := 10) (q := 12) (v := F664 (sc) (12 : Int)) rfl rfl (by decide) (by decide) (Or.inr rfl) rfl ho716.1 ho716.2 (show F723 (sc) (12 : Int) = F664 (sc) (12 : Int) from by rw [eF723]; exact uF_j (by decide)) ?_
              have b729 : (0 : Int) ≤ F664 (sc) (12 : Int) ∧ F664 (sc) (12 : Int) ≤ 1 := by have z := HC_i (c := 10) (q := 12) hC724 ho716.1 ho716.2 (by decide) rfl; rw [show F723 (sc) ((12 : Nat) : Int) = F664 (sc) (12 : Int) from (show F723 (sc) (12 : Int) = F664 (sc) (12 : Int) from by rw [eF723]; exact uF_j (by decide))] at z; exact z
              refine jx_if_ne (pc_q := 129) (tg := 133) rfl rfl rfl (by omega) (by omega) (fun h730 => ?_) (fun h730 => ?_)
              · have _q := h730
                refine jx_go (tg := 142) rfl rfl ?_
                have tb731 := tz_b (F664 (sc) (15 : Int))
                refine jx_rt (v := none) rfl rfl rfl rfl rfl rfl ?_
                have q732 : F723 (sc) (7 : Int) = F (sc) (7 : Int) := ((show F723 (sc) (7 : Int) = F664 (sc) (7 : Int) from by rw [eF723]; exact uF_j (by decide)).trans ((show F664 (sc) (7 : Int) = Fx (sc) (7 : Int) from hM668 _ _ ho3.1 (own_z ho3.1) (by rw [ho3.2]; rfl)).trans (show Fx (sc) (7 : Int) = F (sc) (7 : Int) from hMx _ _ o_sc (own_z o_sc) (by rw [t_sc]; rfl))))
                have q733 : F723 (pg) (9 : Int) = F664 (pg) (9 : Int) := (show F723 (pg) (9 : Int) = F664 (pg) (9 : Int) from by rw [eF723]; exact uF_j (by decide))
                have q734 : F723 (pg) (3 : Int) = F (pg) (3 : Int) := ((show F723 (pg) (3 : Int) = F664 (pg) (3 : Int) from by rw [eF723]; exact uF_j (by decide)).trans ((show F664 (pg) (3 : Int) = Fx (pg) (3 : Int) from hM668 _ _ ho4.1 (own_z ho4.1) (by rw [ho4.2]; rfl)).trans (show Fx (pg) (3 : Int) = F (pg) (3 : Int) from hMx _ _ o_pg (own_z o_pg) (by rw [t_pg]; rfl))))
                have q735 : F723 (pg) (0 : Int) = F664 (pg) (0 : Int) := (show F723 (pg) (0 : Int) = F664 (pg) (0 : Int) from by rw [eF723]; exact uF_a (fun w => by have q1 := ho717.2; have q2 := ho715.2; rw [w, q2] at q1; exact absurd q1 (by decide)))
                have q736 : F723 (pg) (9 : Int) = F664 (pg) (9 : Int) := q733
                exact ⟨m663, tg663, ln663, F723, rfl, rfl, hX719, hC724, hM725, by omega, by omega, by omega, (Or.inr (by have z := c727.2.2; omega)), c726, c720, trivial⟩
              · have _q := h730
                refine jx_ld (pc_q := 130) (l_q := L) (st_q := [rv (me)]) rfl (jl_rvn gL_0) ?_
                have q737 : F723 (sc) (8 : Int) = F664 (sc) (8 : Int) := (show F723 (sc) (8 : Int) = F664 (sc) (8 : Int) from by rw [eF723]; exact uF_j (by decide))
                have q738 : F723 (sc) (7 : Int) = F (sc) (7 : Int) := ((show F723 (sc) (7 : Int) = F664 (sc) (7 : Int) from by rw [eF723]; exact uF_j (by decide)).trans ((show F664 (sc) (7 : Int) = Fx (sc) (7 : Int) from hM668 _ _ ho3.1 (own_z ho3.1) (by rw [ho3.2]; rfl)).trans (show Fx (sc) (7 : Int) = F (sc) (7 : Int) from hMx _ _ o_sc (own_z o_sc) (by rw [t_sc]; rfl))))
                refine cx_vi (c := 8) (a := me) (st := []) (as := []) rfl rfl rfl ho714.1 ho714.2 (by decide) rfl ⟨rfl, rfl, (Nat.le_of_ble_eq_true rfl)⟩ rfl (k_LParser_form (dd := d) (R := R) (m := m663) (tg := tg663) (ln := ln663) (F := F723) (me := me) (hd := by omega) (hC := hC724) (o_me := ho714.1) (t_me := ho714.2) (sc := sc) (pg := pg) (o_sc := ho716.1) (t_sc := ho716.2) (e_sc := (((show F723 (me) (1 : Int) = F664 (me) (1 : Int) from by rw [eF723]; exact uF_j (by decide)).trans ((show F664 (me) (1 : Int) = Fx (me) (1 : Int) from hM668 _ _ ho2.1 (own_z ho2.1) (by rw [ho2.2]; rfl)).trans (show Fx (me) (1 : Int) = F (me) (1 : Int) from hMx _ _ o_me (own_z o_me) (by rw [t_me]; rfl)))).trans e_sc)) (o_pg := ho717.1) (t_pg := ho717.2) (e_pg := (((show F723 (me) (0 : Int) = F664 (me) (0 : Int) from by rw [eF723]; exact uF_a (fun w => by have q1 := ho714.2; have q2 := ho715.2; rw [w, q2] at q1; exact absurd q1 (by decide))).trans ((show F664 (me) (0 : Int) = Fx (me) (0 : Int) from hM668 _ _ ho2.1 (own_z ho2.1) (by rw [ho2.2]; rfl)).trans (show Fx (me) (0 : Int) = F (me) (0 : Int) from hMx _ _ o_me (own_z o_me) (by rw [t_me]; rfl)))).trans e_pg)) (p_0 := by omega) (c_NP := c726)) (fun o V_q hq => ?_)
                obtain ⟨m739, tg739, ln739, F740, rfl, rfl, hx741, hC742, hM743, p744, c745, c746, -⟩ | ⟨m747, tg747, ln747, F747, x747, rfl, rfl, hx747, hC747, hM747, ho747, ht747, p748, p749, p750, p751, c752, c753, -⟩ := hq
                rotate_left
                ·
                  have c754 : NM m m747 tg747 := NM_t c720 hx747 c753
                  have lm755 := hx747.1
                  refine Or.inr (Or.inr (Or.inl ⟨_, _, 136, rfl, cx_exc (c := 15) ho747 ht747 (by decide), rfl, ?_⟩))
                  rw [← rv_x ho747]
                  have hM756 := Fq_t (ln := ln) (ln1 := ln663) hM725 hX719 hM747 (by decide) (Or.inl rfl)
                  have lm757 := hx747.1
                  have ho758 : own m747 (me) ∧ tg747 (me) = 9 := Ex_o hx747 ⟨ho714.1, ho714.2⟩
                  have ho759 : own m747 (sc) ∧ tg747 (sc) = 11 := Ex_o hx747 ⟨ho716.1, ho716.2⟩
                  have ho760 : own m747 (pg) ∧ tg747 (pg) = 10 := Ex_o hx747 ⟨ho717.1, ho717.2⟩
                  have hX761 := Ex_t hX719 hx747
                  refine jx_ld (pc_q := 137) (l_q := jSto1 L 1 (rv (((x747 : Nat) : Int)))) (st_q := []) rfl (js_rvn (by decide)) ?_
                  obtain ⟨L762, eL762⟩ : ∃ q : jL, q = jSto1 L 1 (rv (((x747 : Nat) : Int))) := ⟨_, rfl⟩
                  rw [← eL762]
                  have g763 : jGet L762 0 = some (rv (me)) := eL762 ▸ jg_nr (by decide) gL_0
                  have g764 : jGet L762 1 = some (rv (((x747 : Nat) : Int))) := eL762 ▸ jg_eq
                  clear eL762
                  refine jx_ld (pc_q := 138) (l_q := L762) (st_q := [rv (me)]) rfl (jl_rvn g763) ?_
                  refine jx_ar (pc_q := 139) (st_q := .null :: [rv (me)]) rfl rfl rfl rfl ?_
                  rw [← rv_0]
                  refine cx_po (pc_q := 142) (c := 8) (q := 2) (qi := (2 : Int)) (z := 0) rfl rfl (by decide) (by decide) rfl rfl rfl (by decide) rfl ho758.1 ho758.2 rfl ?_
                  obtain ⟨F765, eF765⟩ : ∃ q, q = uF F747 (me) (2 : Int) (0) := ⟨_, rfl⟩
                  rw [← eF765]
                  have hC766 : HC 0 m747 tg747 ln747 F765 := by rw [eF765]; exact HC_fr (c := 8) (q := 2) (by decide) hC747 ho758.2 (by decide) rfl (Or.inl rfl) ⟨fun w => absurd w (by decide), fun w => absurd w (by decide)⟩
                  have hM767 : Fq 0 [(7, 15), (9, 2), (9, 3), (10, 0), (10, 1), (10, 2), (10, 5), (10, 7), (10, 8), (10, 9), (11, 8), (11, 12), (11, 13), (11, 14), (11, 15), (11, 16), (11, 17), (11, 18), (24, -5), (25, -5), (26, -5)] m tg F F765 := by rw [eF765]; exact Fq_p hM756 ho758.2 (fun w => (hX761.2 _ w).1) rfl
                  have c768 : NP m747 tg747 F765 := by rw [eF765]; exact NP_u hC747 c752 ho758.2 (by omega)
                  have tb769 := tz_b (F664 (sc) (15 : Int))
                  refine jx_rt (v := none) rfl rfl rfl rfl rfl rfl ?_
                  have q770 : F765 (sc) (7 : Int) = F (sc) (7 : Int) := ((show F765 (sc) (7 : Int) = F747 (sc) (7 : Int) from by rw [eF765]; exact uF_j (by decide)).trans ((show F747 (sc) (7 : Int) = F723 (sc) (7 : Int) from hM747 _ _ ho716.1 (own_z ho716.1) (by rw [ho716.2]; rfl)).trans q738))
                  have q771 : F765 (pg) (9 : Int) = F664 (pg) (9 : Int) := ((show F765 (pg) (9 : Int) = F747 (pg) (9 : Int) from by rw [eF765]; exact uF_j (by decide)).trans ((show F747 (pg) (9 : Int) = F723 (pg) (9 : Int) from hM747 _ _ ho717.1 (own_z ho717.1) (by rw [ho717.2]; rfl)).trans (show F723 (pg) (9 : Int) = F664 (pg) (9 : Int) from by rw [eF723]; exact uF_j (by decide))))
                  have q772 : F765 (pg) (3 : Int) = F (pg) (3 : Int) := ((show F765 (pg) (3 : Int) = F747 (pg) (3 : Int) from by rw [eF765]; exact uF_j (by decide)).trans ((show F747 (pg) (3 : Int) = F723 (pg) (3 : Int) from hM747 _ _ ho717.1 (own_z ho717.1) (by rw [ho717.2]; rfl)).trans ((show F723 (pg) (3 : Int) = F664 (pg) (3 : Int) from by rw [eF723]; exact uF_j (by decide)).trans ((show F664 (pg) (3 : Int) = Fx (pg) (3 : Int) from hM668 _ _ ho4.1 (own_z ho4.1) (by rw [ho4.2]; rfl)).trans (show Fx (pg) (3 : Int) = F (pg) (3 : Int) from hMx _ _ o_pg (own_z o_pg) (by rw [t_pg]; rfl))))))
                  have q773 : F765 (pg) (0 : Int) = F747 (pg) (0 : Int) := (show F765 (pg) (0 : Int) = F747 (pg) (0 : Int) from by rw [eF765]; exact uF_j (by decide))
                  have q774 : F765 (pg) (9 : Int) = F664 (pg) (9 : Int) := q771
                  exact ⟨m747, tg747, ln747, F765, rfl, rfl, hX761, hC766, hM767, by omega, by omega, by omega, (Or.inl (by omega)), c768, c754, trivial⟩
                exact p744.elim
            · have _q := h658
              have t775 : tz (Fx (sc) (15 : Int)) = 1 := tz_p (by omega)
              refine jx_ld (pc_q := 99) (l_q := L) (st_q := [rv (me)]) rfl (jl_rvn gL_0) ?_
              have q776 := tz_b (Fx (sc) (15 : Int))
              have q777 : Fx (sc) (7 : Int) = F (sc) (7 : Int) := (show Fx (sc) (7 : Int) = F (sc) (7 : Int) from hMx _ _ o_sc (own_z o_sc) (by rw [t_sc]; rfl))
              have q778 := lz_b (Fx (sc) (14 : Int))
              refine cx_vi (c := 8) (a := me) (st := []) (as := []) rfl rfl rfl ho2.1 ho2.2 (by decide) rfl ⟨rfl, rfl, (Nat.le_of_ble_eq_true rfl)⟩ rfl (k_LParser_readPlaced (dd := d) (R := R) (m := mx) (tg := tgx) (ln := lnx) (F := Fx) (me := me) (hd := by omega) (hC := hCx) (o_me := ho2.1) (t_me := ho2.2) (sc := sc) (pg := pg) (o_sc := ho3.1) (t_sc := ho3.2) (e_sc := ((show Fx (me) (1 : Int) = F (me) (1 : Int) from hMx _ _ o_me (own_z o_me) (by rw [t_me]; rfl)).trans e_sc)) (o_pg := ho4.1) (t_pg := ho4.2) (e_pg := ((show Fx (me) (0 : Int) = F (me) (0 : Int) from hMx _ _ o_me (own_z o_me) (by rw [t_me]; rfl)).trans e_pg)) (p_0 := by omega) (p_1 := by omega) (c_NP := cx_NP) (cr := 0) (c_CR := CR_e iv_9 (show Fx (pg) (3 : Int) = F (pg) (3 : Int) from hMx _ _ o_pg (own_z o_pg) (by rw [t_pg]; rfl)))) (fun o V_q hq => ?_)
              obtain ⟨m779, tg779, ln779, F780, rfl, rfl, hx781, hC782, hM783, p784, p785, p786, p787, p788, p789, c790, c791, c792, -⟩ | ⟨m793, tg793, ln793, F793, x793, rfl, rfl, hx793, hC793, hM793, ho793, ht793, p794, p795, p796, p797, c798, c799, -⟩ := hq
              rotate_left
              ·
                have c800 : NM m m793 tg793 := NM_t cx_NM hx793 c799
                have lm801 := hx793.1
                refine Or.inr (Or.inr (Or.inl ⟨_, _, 136, rfl, cx_exc (c := 15) ho793 ht793 (by decide), rfl, ?_⟩))
                rw [← rv_x ho793]
                have hM802 := Fq_t (ln := ln) (ln1 := lnx) hMx hXx hM793 (by decide) (Or.inl rfl)
                have lm803 := hx793.1
                have ho804 : own m793 (me) ∧ tg793 (me) = 9 := Ex_o hx793 ⟨ho2.1, ho2.2⟩
                have ho805 : own m793 (sc) ∧ tg793 (sc) = 11 := Ex_o hx793 ⟨ho3.1, ho3.2⟩
                have ho806 : own m793 (pg) ∧ tg793 (pg) = 10 := Ex_o hx793 ⟨ho4.1, ho4.2⟩
                have hX807 := Ex_t hXx hx793
                refine jx_ld (pc_q := 137) (l_q := jSto1 L 1 (rv (((x793 : Nat) : Int)))) (st_q := []) rfl (js_rvn (by decide)) ?_
                obtain ⟨L808, eL808⟩ : ∃ q : jL, q = jSto1 L 1 (rv (((x793 : Nat) : Int))) := ⟨_, rfl⟩
                rw [← eL808]
                have g809 : jGet L808 0 = some (rv (me)) := eL808 ▸ jg_nr (by decide) gL_0
                have g810 : jGet L808 1 = some (rv (((x793 : Nat) : Int))) := eL808 ▸ jg_eq
                clear eL808
                refine jx_ld (pc_q := 138) (l_q := L808) (st_q := [rv (me)]) rfl (jl_rvn g809) ?_
                refine jx_ar (pc_q := 139) (st_q := .null :: [rv (me)]) rfl rfl rfl rfl ?_
                rw [← rv_0]
                refine cx_po (pc_q := 142) (c := 8) (q := 2) (qi := (2 : Int)) (z := 0) rfl rfl (by decide) (by decide) rfl rfl rfl (by decide) rfl ho804.1 ho804.2 rfl ?_
                obtain ⟨F811, eF811⟩ : ∃ q, q = uF F793 (me) (2 : Int) (0) := ⟨_, rfl⟩
                rw [← eF811]
                have hC812 : HC 0 m793 tg793 ln793 F811 := by rw [eF811]; exact HC_fr (c := 8) (q := 2) (by decide) hC793 ho804.2 (by decide) rfl (Or.inl rfl) ⟨fun w => absurd w (by decide), fun w => absurd w (by decide)⟩
                have hM813 : Fq 0 [(7, 15), (9, 2), (9, 3), (10, 0), (10, 1), (10, 2), (10, 5), (10, 7), (10, 8), (10, 9), (11, 8), (11, 12), (11, 13), (11, 14), (11, 15), (11, 16), (11, 17), (11, 18), (24, -5), (25, -5), (26, -5)] m tg F F811 := by rw [eF811]; exact Fq_p hM802 ho804.2 (fun w => (hX807.2 _ w).1) rfl
                have c814 : NP m793 tg793 F811 := by rw [eF811]; exact NP_u hC793 c798 ho804.2 (by omega)
                have tb815 := tz_b (F793 (sc) (15 : Int))
                refine jx_rt (v := none) rfl rfl rfl rfl rfl rfl ?_
                have q816 : F811 (sc) (7 : Int) = F (sc) (7 : Int) := ((show F811 (sc) (7 : Int) = F793 (sc) (7 : Int) from by rw [eF811]; exact uF_j (by decide)).trans ((show F793 (sc) (7 : Int) = Fx (sc) (7 : Int) from hM793 _ _ ho3.1 (own_z ho3.1) (by rw [ho3.2]; rfl)).trans (show Fx (sc) (7 : Int) = F (sc) (7 : Int) from hMx _ _ o_sc (own_z o_sc) (by rw [t_sc]; rfl))))
                have q817 : F811 (pg) (9 : Int) = F793 (pg) (9 : Int) := (show F811 (pg) (9 : Int) = F793 (pg) (9 : Int) from by rw [eF811]; exact uF_j (by decide))
                have q818 : F811 (pg) (3 : Int) = F (pg) (3 : Int) := ((show F811 (pg) (3 : Int) = F793 (pg) (3 : Int) from by rw [eF811]; exact uF_j (by decide)).trans ((show F793 (pg) (3 : Int) = Fx (pg) (3 : Int) from hM793 _ _ ho4.1 (own_z ho4.1) (by rw [ho4.2]; rfl)).trans (show Fx (pg) (3 : Int) = F (pg) (3 : Int) from hMx _ _ o_pg (own_z o_pg) (by rw [t_pg]; rfl))))
                have q819 : F811 (pg) (0 : Int) = F793 (pg) (0 : Int) := (show F811 (pg) (0 : Int) = F793 (pg) (0 : Int) from by rw [eF811]; exact uF_j (by decide))
                have q820 : F811 (pg) (9 : Int) = F793 (pg) (9 : Int) := q817
                exact ⟨m793, tg793, ln793, F811, rfl, rfl, hX807, hC812, hM813, by omega, by omega, by omega, (Or.inl (by omega)), c814, c800, trivial⟩
              have hM821 : Fq 0 [(7, 15), (9, 2), (9, 3), (10, 0), (10, 1), (10, 2), (10, 5), (10, 7), (10, 8), (10, 9), (11, 8), (11, 12), (11, 13), (11, 14), (11, 15), (11, 16), (11, 17), (11, 18), (24, -5), (25, -5), (26, -5)] m tg F F780 := Fq_t (ln := ln) (ln1 := lnx) hMx hXx hM783 (by decide) (Or.inl rfl)
              have lm822 := hx781.1
              have ho823 : own m779 (me) ∧ tg779 (me) = 9 := Ex_o hx781 ⟨ho2.1, ho2.2⟩
              have ho824 : own m779 (sc) ∧ tg779 (sc) = 11 := Ex_o hx781 ⟨ho3.1, ho3.2⟩
              have ho825 : own m779 (pg) ∧ tg779 (pg) = 10 := Ex_o hx781 ⟨ho4.1, ho4.2⟩
              have hX826 := Ex_t hXx hx781
              have c827 : NM m m779 tg779 := NM_t cx_NM hx781 c791
              have c828 : CR m779 tg779 F780 (F pg (3 : Int)) ((0) + (F780 sc (8 : Int) - Fx sc (8 : Int) - 3) / 4) := CR_e2 c792 (show Fx (pg) (3 : Int) = F (pg) (3 : Int) from hMx _ _ o_pg (own_z o_pg) (by rw [t_pg]; rfl))
              refine Or.inl ⟨rfl, ?_⟩
              refine jx_go (tg := 119) rfl rfl ?_
              have tb829 := tz_b (F780 (sc) (15 : Int))
              refine jx_ld (pc_q := 120) (l_q := L) (st_q := [rv (me)]) rfl (jl_rvn gL_0) ?_
              refine cx_gr (pc_q := 123) (c := 8) (q := 1) (v := sc) rfl rfl (by decide) (by decide) rfl rfl ho823.1 ho823.2 (((show F780 (me) (1 : Int) = Fx (me) (1 : Int) from hM783 _ _ ho2.1 (own_z ho2.1) (by rw [ho2.2]; rfl)).trans (show Fx (me) (1 : Int) = F (me) (1 : Int) from hMx _ _ o_me (own_z o_me) (by rw [t_me]; rfl))).trans e_sc) ?_
              refine cx_gi (pc_q := 126) (c := 10) (q := 12) (v := F780 (sc) (12 : Int)) rfl rfl (by decide) (by decide) (Or.inr rfl) rfl ho824.1 ho824.2 rfl ?_
              have b830 : (0 : Int) ≤ F780 (sc) (12 : Int) ∧ F780 (sc) (12 : Int) ≤ 1 := by have z := HC_i (c := 10) (q := 12) hC782 ho824.1 ho824.2 (by decide) rfl; rw [show F780 (sc) ((12 : Nat) : Int) = F780 (sc) (12 : Int) from rfl] at z; exact z
              refine jx_if_ne (pc_q := 129) (tg := 133) rfl rfl rfl (by omega) (by omega) (fun h831 => ?_) (fun h831 => ?_)
              · have _q := h831
                refine jx_go (tg := 142) rfl rfl ?_
                have tb832 := tz_b (F780 (sc) (15 : Int))
                refine jx_rt (v := none) rfl rfl rfl rfl rfl rfl ?_
                have q833 : F780 (sc) (7 : Int) = F (sc) (7 : Int) := ((show F780 (sc) (7 : Int) = Fx (sc) (7 : Int) from hM783 _ _ ho3.1 (own_z ho3.1) (by rw [ho3.2]; rfl)).trans (show Fx (sc) (7 : Int) = F (sc) (7 : Int) from hMx _ _ o_sc (own_z o_sc) (by rw [t_sc]; rfl)))
                have q834 : F780 (pg) (3 : Int) = F (pg) (3 : Int) := ((show F780 (pg) (3 : Int) = Fx (pg) (3 : Int) from hM783 _ _ ho4.1 (own_z ho4.1) (by rw [ho4.2]; rfl)).trans (show Fx (pg) (3 : Int) = F (pg) (3 : Int) from hMx _ _ o_pg (own_z o_pg) (by rw [t_pg]; rfl)))
                exact ⟨m779, tg779, ln779, F780, rfl, rfl, hX826, hC782, hM821, by omega, by omega, by omega, (Or.inr (by have z := c828.2.2; omega)), c790, c827, trivial⟩
              · have _q := h831
                refine jx_ld (pc_q := 130) (l_q := L) (st_q := [rv (me)]) rfl (jl_rvn gL_0) ?_
                have q835 : F780 (sc) (7 : Int) = F (sc) (7 : Int) := ((show F780 (sc) (7 : Int) = Fx (sc) (7 : Int) from hM783 _ _ ho3.1 (own_z ho3.1) (by rw [ho3.2]; rfl)).trans (show Fx (sc) (7 : Int) = F (sc) (7 : Int) from hMx _ _ o_sc (own_z o_sc) (by rw [t_sc]; rfl)))
                refine cx_vi (c := 8) (a := me) (st := []) (as := []) rfl rfl rfl ho823.1 ho823.2 (by decide) rfl ⟨rfl, rfl, (Nat.le_of_ble_eq_true rfl)⟩ rfl (k_LParser_form (dd := d) (R := R) (m := m779) (tg := tg779) (ln := ln779) (F := F780) (me := me) (hd := by omega) (hC := hC782) (o_me := ho823.1) (t_me := ho823.2) (sc := sc) (pg := pg) (o_sc := ho824.1) (t_sc := ho824.2) (e_sc := (((show F780 (me) (1 : Int) = Fx (me) (1 : Int) from hM783 _ _ ho2.1 (own_z ho2.1) (by rw [ho2.2]; rfl)).trans (show Fx (me) (1 : Int) = F (me) (1 : Int) from hMx _ _ o_me (own_z o_me) (by rw [t_me]; rfl))).trans e_sc)) (o_pg := ho825.1) (t_pg := ho825.2) (e_pg := (((show F780 (me) (0 : Int) = Fx (me) (0 : Int) from hM783 _ _ ho2.1 (own_z ho2.1) (by rw [ho2.2]; rfl)).trans (show Fx (me) (0 : Int) = F (me) (0 : Int) from hMx _ _ o_me (own_z o_me) (by rw [t_me]; rfl))).trans e_pg)) (p_0 := by omega) (c_NP := c790)) (fun o V_q hq => ?_)
                obtain ⟨m836, tg836, ln836, F837, rfl, rfl, hx838, hC839, hM840, p841, c842, c843, -⟩ | ⟨m844, tg844, ln844, F844, x844, rfl, rfl, hx844, hC844, hM844, ho844, ht844, p845, p846, p847, p848, c849, c850, -⟩ := hq
                rotate_left
                ·
                  have c851 : NM m m844 tg844 := NM_t c827 hx844 c850
                  have lm852 := hx844.1
                  refine Or.inr (Or.inr (Or.inl ⟨_, _, 136, rfl, cx_exc (c := 15) ho844 ht844 (by decide), rfl, ?_⟩))
                  rw [← rv_x ho844]
                  have hM853 := Fq_t (ln := ln) (ln1 := ln779) hM821 hX826 hM844 (by decide) (Or.inl rfl)
                  have lm854 := hx844.1
                  have ho855 : own m844 (me) ∧ tg844 (me) = 9 := Ex_o hx844 ⟨ho823.1, ho823.2⟩
                  have ho856 : own m844 (sc) ∧ tg844 (sc) = 11 := Ex_o hx844 ⟨ho824.1, ho824.2⟩
                  have ho857 : own m844 (pg) ∧ tg844 (pg) = 10 := Ex_o hx844 ⟨ho825.1, ho825.2⟩
                  have hX858 := Ex_t hX826 hx844
                  refine jx_ld (pc_q := 137) (l_q := jSto1 L 1 (rv (((x844 : Nat) : Int)))) (st_q := []) rfl (js_rvn (by decide)) ?_
                  obtain ⟨L859, eL859⟩ : ∃ q : jL, q = jSto1 L 1 (rv (((x844 : Nat) : Int))) := ⟨_, rfl⟩
                  rw [← eL859]
                  have g860 : jGet L859 0 = some (rv (me)) := eL859 ▸ jg_nr (by decide) gL_0
                  have g861 : jGet L859 1 = some (rv (((x844 : Nat) : Int))) := eL859 ▸ jg_eq
                  clear eL859
                  refine jx_ld (pc_q := 138) (l_q := L859) (st_q := [rv (me)]) rfl (jl_rvn g860) ?_
                  refine jx_ar (pc_q := 139) (st_q := .null :: [rv (me)]) rfl rfl rfl rfl ?_
                  rw [← rv_0]
                  refine cx_po (pc_q := 142) (c := 8) (q := 2) (qi := (2 : Int)) (z := 0) rfl rfl (by decide) (by decide) rfl rfl rfl (by decide) rfl ho855.1 ho855.2 rfl ?_
                  obtain ⟨F862, eF862⟩ : ∃ q, q = uF F844 (me) (2 : Int) (0) := ⟨_, rfl⟩
                  rw [← eF862]
                  have hC863 : HC 0 m844 tg844 ln844 F862 := by rw [eF862]; exact HC_fr (c := 8) (q := 2) (by decide) hC844 ho855.2 (by decide) rfl (Or.inl rfl) ⟨fun w => absurd w (by decide), fun w => absurd w (by decide)⟩
                  have hM864 : Fq 0 [(7, 15), (9, 2), (9, 3), (10, 0), (10, 1), (10, 2), (10, 5), (10, 7), (10, 8), (10, 9), (11, 8), (11, 12), (11, 13), (11, 14), (11, 15), (11, 16), (11, 17), (11, 18), (24, -5), (25, -5), (26, -5)] m tg F F862 := by rw [eF862]; exact Fq_p hM853 ho855.2 (fun w => (hX858.2 _ w).1) rfl
                  have c865 : NP m844 tg844 F862 := by rw [eF862]; exact NP_u hC844 c849 ho855.2 (by omega)
                  have tb866 := tz_b (F780 (sc) (15 : Int))
                  refine jx_rt (v := none) rfl rfl rfl rfl rfl rfl ?_
                  have q867 : F862 (sc) (7 : Int) = F (sc) (7 : Int) := ((show F862 (sc) (7 : Int) = F844 (sc) (7 : Int) from by rw [eF862]; exact uF_j (by decide)).trans ((show F844 (sc) (7 : Int) = F780 (sc) (7 : Int) from hM844 _ _ ho824.1 (own_z ho824.1) (by rw [ho824.2]; rfl)).trans q835))
                  have q868 : F862 (pg) (9 : Int) = F780 (pg) (9 : Int) := ((show F862 (pg) (9 : Int) = F844 (pg) (9 : Int) from by rw [eF862]; exact uF_j (by decide)).trans (show F844 (pg) (9 : Int) = F780 (pg) (9 : Int) from hM844 _ _ ho825.1 (own_z ho825.1) (by rw [ho825.2]; rfl)))
                  have q869 : F862 (pg) (3 : Int) = F (pg) (3 : Int) := ((show F862 (pg) (3 : Int) = F844 (pg) (3 : Int) from by rw [eF862]; exact uF_j (by decide)).trans ((show F844 (pg) (3 : Int) = F780 (pg) (3 : Int) from hM844 _ _ ho825.1 (own_z ho825.1) (by rw [ho825.2]; rfl)).trans ((show F780 (pg) (3 : Int) = Fx (pg) (3 : Int) from hM783 _ _ ho4.1 (own_z ho4.1) (by rw [ho4.2]; rfl)).trans (show Fx (pg) (3 : Int) = F (pg) (3 : Int) from hMx _ _ o_pg (own_z o_pg) (by rw [t_pg]; rfl)))))
                  have q870 : F862 (pg) (0 : Int) = F844 (pg) (0 : Int) := (show F862 (pg) (0 : Int) = F844 (pg) (0 : Int) from by rw [eF862]; exact uF_j (by decide))
                  have q871 : F862 (pg) (9 : Int) = F780 (pg) (9 : Int) := q868
                  exact ⟨m844, tg844, ln844, F862, rfl, rfl, hX858, hC863, hM864, by omega, by omega, by omega, (Or.inl (by omega)), c865, c851, trivial⟩
                exact p841.elim
      · have _q := h440
        have t872 : lz (Fx (sc) (14 : Int)) = 1 := lz_p (by omega)
        refine jx_ld (pc_q := 43) (l_q := L) (st_q := [rv (me)]) rfl (jl_rvn gL_0) ?_
        refine cx_gr (pc_q := 46) (c := 8) (q := 1) (v := sc) rfl rfl (by decide) (by decide) rfl rfl ho2.1 ho2.2 ((show Fx (me) (1 : Int) = F (me) (1 : Int) from hMx _ _ o_me (own_z o_me) (by rw [t_me]; rfl)).trans e_sc) ?_
        refine cx_gi (pc_q := 49) (c := 10) (q := 15) (v := Fx (sc) (15 : Int)) rfl rfl (by decide) (by decide) (Or.inl rfl) rfl ho3.1 ho3.2 rfl ?_
        have b873 : (-2147483648 : Int) ≤ Fx (sc) (15 : Int) ∧ Fx (sc) (15 : Int) ≤ 2147483647 := by have z := HC_i (c := 10) (q := 15) hCx ho3.1 ho3.2 (by decide) rfl; rw [show Fx (sc) ((15 : Nat) : Int) = Fx (sc) (15 : Int) from rfl] at z; exact z
        refine jx_ar (pc_q := 51) (st_q := [.int (i32 (21)), .int (i32 (Fx (sc) (15 : Int)))]) rfl rfl rfl rfl ?_
        refine jx_icmp_ne (pc_q := 54) (tg := 64) rfl rfl rfl (by omega) (by omega) (by decide) (by decide) (fun h874 => ?_) (fun h874 => ?_)
        · have _q := h874
          refine jx_ld (pc_q := 65) (l_q := L) (st_q := [rv (me)]) rfl (jl_rvn gL_0) ?_
          refine cx_gr (pc_q := 68) (c := 8) (q := 1) (v := sc) rfl rfl (by decide) (by decide) rfl rfl ho2.1 ho2.2 ((show Fx (me) (1 : Int) = F (me) (1 : Int) from hMx _ _ o_me (own_z o_me) (by rw [t_me]; rfl)).trans e_sc) ?_
          refine cx_gi (pc_q := 71) (c := 10) (q := 14) (v := Fx (sc) (14 : Int)) rfl rfl (by decide) (by decide) (Or.inl rfl) rfl ho3.1 ho3.2 rfl ?_
          refine jx_if_ne (pc_q := 74) (tg := 105) rfl rfl rfl (by omega) (by omega) (fun h875 => ?_) (fun h875 => ?_)
          · have _q := h875
            refine jx_ld (pc_q := 106) (l_q := L) (st_q := [rv (me)]) rfl (jl_rvn gL_0) ?_
            refine cx_gr (pc_q := 109) (c := 8) (q := 0) (v := pg) rfl rfl (by decide) (by decide) rfl rfl ho2.1 ho2.2 ((show Fx (me) (0 : Int) = F (me) (0 : Int) from hMx _ _ o_me (own_z o_me) (by rw [t_me]; rfl)).trans e_pg) ?_
            refine cx_gr (pc_q := 112) (c := 9) (q := 3) (v := F (pg) (3 : Int)) rfl rfl (by decide) (by decide) rfl rfl ho4.1 ho4.2 (show Fx (pg) (3 : Int) = F (pg) (3 : Int) from hMx _ _ o_pg (own_z o_pg) (by rw [t_pg]; rfl)) ?_
            have y876 : own mx (F (pg) (3 : Int)) ∧ tgx (F (pg) (3 : Int)) = 24 ∧ ((6 : Int) ≠ 0 → lnx (F (pg) (3 : Int)) = 6) := by have z := HC_n (c := 9) (q := 3) hCx ho4.1 ho4.2 (own_z ho4.1) (by decide) rfl; rw [show Fx (pg) ((3 : Nat) : Int) = F (pg) (3 : Int) from (show Fx (pg) (3 : Int) = F (pg) (3 : Int) from hMx _ _ o_pg (own_z o_pg) (by rw [t_pg]; rfl))] at z; exact ⟨z.1, z.2.1, z.2.2.1⟩
            have ly876 : lnx (F (pg) (3 : Int)) = 6 := y876.2.2 (by decide)
            refine jx_ar (pc_q := 113) (st_q := [.int (i32 (0)), rv (F (pg) (3 : Int))]) rfl rfl rfl rfl ?_
            refine jx_ld (pc_q := 114) (l_q := L) (st_q := [rv (me), .int (i32 (0)), rv (F (pg) (3 : Int))]) rfl (jl_rvn gL_0) ?_
            refine jx_ar (pc_q := 115) (st_q := [.int (i32 (0)), rv (me), .int (i32 (0)), rv (F (pg) (3 : Int))]) rfl rfl rfl rfl ?_
            have q877 := tz_b (Fx (sc) (15 : Int))
            have q878 : Fx (sc) (7 : Int) = F (sc) (7 : Int) := (show Fx (sc) (7 : Int) = F (sc) (7 : Int) from hMx _ _ o_sc (own_z o_sc) (by rw [t_sc]; rfl))
            have q879 := lz_b (Fx (sc) (14 : Int))
            refine cx_vi (c := 8) (a := me) (st := [.int (i32 (0)), rv (F (pg) (3 : Int))]) (as := [.int (i32 (0))]) rfl rfl rfl ho2.1 ho2.2 (by decide) rfl ⟨rfl, rfl, (by rw [jS_i, jS_r, jS_0]; exact Nat.le_of_ble_eq_true rfl)⟩ rfl (PPx_all X 18 (dd := d) (R := R) (m := mx) (tg := tgx) (ln := lnx) (F := Fx) (me := me) (lv := 0) (hd := by omega) (hC := hCx) (o_me := ho2.1) (t_me := ho2.2) (h_lv := by omega) (sc := sc) (pg := pg) (o_sc := ho3.1) (t_sc := ho3.2) (e_sc := ((show Fx (me) (1 : Int) = F (me) (1 : Int) from hMx _ _ o_me (own_z o_me) (by rw [t_me]; rfl)).trans e_sc)) (o_pg := ho4.1) (t_pg := ho4.2) (e_pg := ((show Fx (me) (0 : Int) = F (me) (0 : Int) from hMx _ _ o_me (own_z o_me) (by rw [t_me]; rfl)).trans e_pg)) (p_0 := by omega) (p_1 := by omega) (p_2 := by omega) (p_3 := by omega) (c_NP := cx_NP)) (fun o V_q hq => ?_)
            obtain ⟨m880, tg880, ln880, F881, r882, rfl, rfl, hx883, hC884, hM885, b886, p887, p888, p889, p890, p891, p892, p893, p894, p895, p896, p897, p898, c899, c900, -⟩ | ⟨m901, tg901, ln901, F901, x901, rfl, rfl, hx901, hC901, hM901, ho901, ht901, p902, p903, p904, p905, c906, c907, -⟩ := hq
            rotate_left
            ·
              have c908 : NM m m901 tg901 := NM_t cx_NM hx901 c907
              have lm909 := hx901.1
              refine Or.inr (Or.inr (Or.inl ⟨_, _, 136, rfl, cx_exc (c := 15) ho901 ht901 (by decide), rfl, ?_⟩))
              rw [← rv_x ho901]
              have hM910 := Fq_t (ln := ln) (ln1 := lnx) hMx hXx hM901 (by decide) (Or.inl rfl)
              have lm911 := hx901.1
              have ho912 : own m901 (me) ∧ tg901 (me) = 9 := Ex_o hx901 ⟨ho2.1, ho2.2⟩
              have ho913 : own m901 (sc) ∧ tg901 (sc) = 11 := Ex_o hx901 ⟨ho3.1, ho3.2⟩
              have ho914 : own m901 (pg) ∧ tg901 (pg) = 10 := Ex_o hx901 ⟨ho4.1, ho4.2⟩
              have hX915 := Ex_t hXx hx901
              refine jx_ld (pc_q := 137) (l_q := jSto1 L 1 (rv (((x901 : Nat) : Int)))) (st_q := []) rfl (js_rvn (by decide)) ?_
              obtain ⟨L916, eL916⟩ : ∃ q : jL, q = jSto1 L 1 (rv (((x901 : Nat) : Int))) := ⟨_, rfl⟩
              rw [← eL916]
              have g917 : jGet L916 0 = some (rv (me)) := eL916 ▸ jg_nr (by decide) gL_0
              have g918 : jGet L916 1 = some (rv (((x901 : Nat) : Int))) := eL916 ▸ jg_eq
              clear eL916
              refine jx_ld (pc_q := 138) (l_q := L916) (st_q := [rv (me)]) rfl (jl_rvn g917) ?_
              refine jx_ar (pc_q := 139) (st_q := .null :: [rv (me)]) rfl rfl rfl rfl ?_
              rw [← rv_0]
              refine cx_po (pc_q := 142) (c := 8) (q := 2) (qi := (2 : Int)) (z := 0) rfl rfl (by decide) (by decide) rfl rfl rfl (by decide) rfl ho912.1 ho912.2 rfl ?_
              obtain ⟨F919, eF919⟩ : ∃ q, q = uF F901 (me) (2 : Int) (0) := ⟨_, rfl⟩
              rw [← eF919]
              have hC920 : HC 0 m901 tg901 ln901 F919 := by rw [eF919]; exact HC_fr (c := 8) (q := 2) (by decide) hC901 ho912.2 (by decide) rfl (Or.inl rfl) ⟨fun w => absurd w (by decide), fun w => absurd w (by decide)⟩
              have hM921 : Fq 0 [(7, 15), (9, 2), (9, 3), (10, 0), (10, 1), (10, 2), (10, 5), (10, 7), (10, 8), (10, 9), (11, 8), (11, 12), (11, 13), (11, 14), (11, 15), (11, 16), (11, 17), (11, 18), (24, -5), (25, -5), (26, -5)] m tg F F919 := by rw [eF919]; exact Fq_p hM910 ho912.2 (fun w => (hX915.2 _ w).1) rfl
              have c922 : NP m901 tg901 F919 := by rw [eF919]; exact NP_u hC901 c906 ho912.2 (by omega)
              have tb923 := tz_b (F901 (sc) (15 : Int))
              refine jx_rt (v := none) rfl rfl rfl rfl rfl rfl ?_
              have q924 : F919 (sc) (7 : Int) = F (sc) (7 : Int) := ((show F919 (sc) (7 : Int) = F901 (sc) (7 : Int) from by rw [eF919]; exact uF_j (by decide)).trans ((show F901 (sc) (7 : Int) = Fx (sc) (7 : Int) from hM901 _ _ ho3.1 (own_z ho3.1) (by rw [ho3.2]; rfl)).trans (show Fx (sc) (7 : Int) = F (sc) (7 : Int) from hMx _ _ o_sc (own_z o_sc) (by rw [t_sc]; rfl))))
              have q925 : F919 (pg) (9 : Int) = F901 (pg) (9 : Int) := (show F919 (pg) (9 : Int) = F901 (pg) (9 : Int) from by rw [eF919]; exact uF_j (by decide))
              have q926 : F919 (pg) (3 : Int) = F (pg) (3 : Int) := ((show F919 (pg) (3 : Int) = F901 (pg) (3 : Int) from by rw [eF919]; exact uF_j (by decide)).trans ((show F901 (pg) (3 : Int) = Fx (pg) (3 : Int) from hM901 _ _ ho4.1 (own_z ho4.1) (by rw [ho4.2]; rfl)).trans (show Fx (pg) (3 : Int) = F (pg) (3 : Int) from hMx _ _ o_pg (own_z o_pg) (by rw [t_pg]; rfl))))
              have q927 : F919 (pg) (0 : Int) = F901 (pg) (0 : Int) := (show F919 (pg) (0 : Int) = F901 (pg) (0 : Int) from by rw [eF919]; exact uF_j (by decide))
              have q928 : F919 (pg) (9 : Int) = F901 (pg) (9 : Int) := q925
              exact ⟨m901, tg901, ln901, F919, rfl, rfl, hX915, hC920, hM921, by omega, by omega, by omega, (Or.inl (by omega)), c922, c908, trivial⟩
            have hM929 : Fq 0 [(7, 15), (9, 2), (9, 3), (10, 0), (10, 1), (10, 2), (10, 5), (10, 7), (10, 8), (10, 9), (11, 8), (11, 12), (11, 13), (11, 14), (11, 15), (11, 16), (11, 17), (11, 18), (24, -5), (25, -5), (26, -5)] m tg F F881 := Fq_t (ln := ln) (ln1 := lnx) hMx hXx hM885 (by decide) (Or.inl rfl)
            have lm930 := hx883.1
            have ho931 : own m880 (me) ∧ tg880 (me) = 9 := Ex_o hx883 ⟨ho2.1, ho2.2⟩
            have ho932 : own m880 (F (pg) (3 : Int)) ∧ tg880 (F (pg) (3 : Int)) = 24 := Ex_o hx883 ⟨y876.1, y876.2.1⟩
            have ho933 : own m880 (sc) ∧ tg880 (sc) = 11 := Ex_o hx883 ⟨ho3.1, ho3.2⟩
            have ho934 : own m880 (pg) ∧ tg880 (pg) = 10 := Ex_o hx883 ⟨ho4.1, ho4.2⟩
            have ln935 : ln880 (F (pg) (3 : Int)) = 6 := (hx883.2 _ y876.1).2.trans ly876
            have hX936 := Ex_t hXx hx883
            have c937 : NM m m880 tg880 := NM_t cx_NM hx883 c900
            have c938 : CR m880 tg880 F881 (F pg (3 : Int)) (0) := CR_x iv_9 hx883 hM885 rfl
            refine Or.inr (Or.inl ⟨_, rfl, ?_⟩)
            have b939 := HC_l hC884 ho932.1 ho932.2 (by decide)
            refine cx_aas (pc_q := 119) (c := 7) (z := 0) (y := r882) rfl rfl ho932.1 (by rw [ho932.2]; decide) (by omega) (by omega) (by omega) (fun hz => (Or.inr ⟨b886.1, b886.2⟩).resolve_left hz) (by decide) (by rw [ho932.2]; rfl) ?_
            obtain ⟨F940, eF940⟩ : ∃ q, q = uF F881 (F (pg) (3 : Int)) (0 : Int) (r882) := ⟨_, rfl⟩
            rw [← eF940]
            have hC941 : HC 0 m880 tg880 ln880 F940 := by rw [eF940]; exact HC_pa hC884 ho932.1 ho932.2 (by decide) (by omega) (Or.inr ⟨b886.1, b886.2⟩)
            have hM942 : Fq 0 [(7, 15), (9, 2), (9, 3), (10, 0), (10, 1), (10, 2), (10, 5), (10, 7), (10, 8), (10, 9), (11, 8), (11, 12), (11, 13), (11, 14), (11, 15), (11, 16), (11, 17), (11, 18), (24, -5), (25, -5), (26, -5)] m tg F F940 := by rw [eF940]; exact Fq_p hM929 ho932.2 (fun w => (hX936.2 _ w).1) (inL_a rfl (by omega) rfl)
            have c943 : NP m880 tg880 F940 := by rw [eF940]; exact NP_rt hC884 c899 ho932.2 (show F881 (F (pg) (3 : Int)) (-1) = 0 by have z := HC_n (c := 9) (q := 3) hC884 ho934.1 ho934.2 (own_z ho934.1) (by decide) rfl; rw [show F881 (pg) ((3 : Nat) : Int) = F (pg) (3 : Int) from ((show F881 (pg) (3 : Int) = Fx (pg) (3 : Int) from hM885 _ _ ho4.1 (own_z ho4.1) (by rw [ho4.2]; rfl)).trans (show Fx (pg) (3 : Int) = F (pg) (3 : Int) from hMx _ _ o_pg (own_z o_pg) (by rw [t_pg]; rfl)))] at z; exact z.2.2.2 (by decide)) (by omega) (SN_i b886.1 b886.2 (by omega) (by omega) (by omega))
            have c944 : CR m880 tg880 F940 (F pg (3 : Int)) ((0) + 1) := by rw [eF940]; exact CR_p c938
            have tb945 := tz_b (F881 (sc) (15 : Int))
            refine jx_ld (pc_q := 120) (l_q := L) (st_q := [rv (me)]) rfl (jl_rvn gL_0) ?_
            refine cx_gr (pc_q := 123) (c := 8) (q := 1) (v := sc) rfl rfl (by decide) (by decide) rfl rfl ho931.1 ho931.2 (((show F940 (me) (1 : Int) = F881 (me) (1 : Int) from by rw [eF940]; exact uF_j (by decide)).trans ((show F881 (me) (1 : Int) = Fx (me) (1 : Int) from hM885 _ _ ho2.1 (own_z ho2.1) (by rw [ho2.2]; rfl)).trans (show Fx (me) (1 : Int) = F (me) (1 : Int) from hMx _ _ o_me (own_z o_me) (by rw [t_me]; rfl)))).trans e_sc) ?_
            refine cx_gi (pc_q := 126) (c := 10) (q := 12) (v := F881 (sc) (12 : Int)) rfl rfl (by decide) (by decide) (Or.inr rfl) rfl ho933.1 ho933.2 (show F940 (sc) (12 : Int) = F881 (sc) (12 : Int) from by rw [eF940]; exact uF_j (by decide)) ?_
            have b946 : (0 : Int) ≤ F881 (sc) (12 : Int) ∧ F881 (sc) (12 : Int) ≤ 1 := by have z := HC_i (c := 10) (q := 12) hC941 ho933.1 ho933.2 (by decide) rfl; rw [show F940 (sc) ((12 : Nat) : Int) = F881 (sc) (12 : Int) from (show F940 (sc) (12 : Int) = F881 (sc) (12 : Int) from by rw [eF940]; exact uF_j (by decide))] at z; exact z
            refine jx_if_ne (pc_q := 129) (tg := 133) rfl rfl rfl (by omega) (by omega) (fun h947 => ?_) (fun h947 => ?_)
            · have _q := h947
              refine jx_go (tg := 142) rfl rfl ?_
              have tb948 := tz_b (F881 (sc) (15 : Int))
              refine jx_rt (v := none) rfl rfl rfl rfl rfl rfl ?_
              have q949 : F940 (sc) (7 : Int) = F (sc) (7 : Int) := ((show F940 (sc) (7 : Int) = F881 (sc) (7 : Int) from by rw [eF940]; exact uF_j (by decide)).trans ((show F881 (sc) (7 : Int) = Fx (sc) (7 : Int) from hM885 _ _ ho3.1 (own_z ho3.1) (by rw [ho3.2]; rfl)).trans (show Fx (sc) (7 : Int) = F (sc) (7 : Int) from hMx _ _ o_sc (own_z o_sc) (by rw [t_sc]; rfl))))
              have q950 : F940 (pg) (9 : Int) = F881 (pg) (9 : Int) := (show F940 (pg) (9 : Int) = F881 (pg) (9 : Int) from by rw [eF940]; exact uF_j (by decide))
              have q951 : F940 (pg) (3 : Int) = F (pg) (3 : Int) := ((show F940 (pg) (3 : Int) = F881 (pg) (3 : Int) from by rw [eF940]; exact uF_j (by decide)).trans ((show F881 (pg) (3 : Int) = Fx (pg) (3 : Int) from hM885 _ _ ho4.1 (own_z ho4.1) (by rw [ho4.2]; rfl)).trans (show Fx (pg) (3 : Int) = F (pg) (3 : Int) from hMx _ _ o_pg (own_z o_pg) (by rw [t_pg]; rfl))))
              have q952 : F940 (pg) (0 : Int) = F881 (pg) (0 : Int) := (show F940 (pg) (0 : Int) = F881 (pg) (0 : Int) from by rw [eF940]; exact uF_a (fun w => by have q1 := ho934.2; have q2 := ho932.2; rw [w, q2] at q1; exact absurd q1 (by decide)))
              have q953 : F940 (pg) (9 : Int) = F881 (pg) (9 : Int) := q950
              exact ⟨m880, tg880, ln880, F940, rfl, rfl, hX936, hC941, hM942, by omega, by omega, by omega, (Or.inr (by have z := c944.2.2; omega)), c943, c937, trivial⟩
            · have _q := h947
              refine jx_ld (pc_q := 130) (l_q := L) (st_q := [rv (me)]) rfl (jl_rvn gL_0) ?_
              have q954 : F940 (sc) (8 : Int) = F881 (sc) (8 : Int) := (show F940 (sc) (8 : Int) = F881 (sc) (8 : Int) from by rw [eF940]; exact uF_j (by decide))
              have q955 : F940 (sc) (7 : Int) = F (sc) (7 : Int) := ((show F940 (sc) (7 : Int) = F881 (sc) (7 : Int) from by rw [eF940]; exact uF_j (by decide)).trans ((show F881 (sc) (7 : Int) = Fx (sc) (7 : Int) from hM885 _ _ ho3.1 (own_z ho3.1) (by rw [ho3.2]; rfl)).trans (show Fx (sc) (7 : Int) = F (sc) (7 : Int) from hMx _ _ o_sc (own_z o_sc) (by rw [t_sc]; rfl))))
              refine cx_vi (c := 8) (a := me) (st := []) (as := []) rfl rfl rfl ho931.1 ho931.2 (by decide) rfl ⟨rfl, rfl, (Nat.le_of_ble_eq_true rfl)⟩ rfl (k_LParser_form (dd := d) (R := R) (m := m880) (tg := tg880) (ln := ln880) (F := F940) (me := me) (hd := by omega) (hC := hC941) (o_me := ho931.1) (t_me := ho931.2) (sc := sc) (pg := pg) (o_sc := ho933.1) (t_sc := ho933.2) (e_sc := (((show F940 (me) (1 : Int) = F881 (me) (1 : Int) from by rw [eF940]; exact uF_j (by decide)).trans ((show F881 (me) (1 : Int) = Fx (me) (1 : Int) from hM885 _ _ ho2.1 (own_z ho2.1) (by rw [ho2.2]; rfl)).trans (show Fx (me) (1 : Int) = F (me) (1 : Int) from hMx _ _ o_me (own_z o_me) (by rw [t_me]; rfl)))).trans e_sc)) (o_pg := ho934.1) (t_pg := ho934.2) (e_pg := (((show F940 (me) (0 : Int) = F881 (me) (0 : Int) from by rw [eF940]; exact uF_a (fun w => by have q1 := ho931.2; have q2 := ho932.2; rw [w, q2] at q1; exact absurd q1 (by decide))).trans ((show F881 (me) (0 : Int) = Fx (me) (0 : Int) from hM885 _ _ ho2.1 (own_z ho2.1) (by rw [ho2.2]; rfl)).trans (show Fx (me) (0 : Int) = F (me) (0 : Int) from hMx _ _ o_me (own_z o_me) (by rw [t_me]; rfl)))).trans e_pg)) (p_0 := by omega) (c_NP := c943)) (fun o V_q hq => ?_)
              obtain ⟨m956, tg956, ln956, F957, rfl, rfl, hx958, hC959, hM960, p961, c962, c963, -⟩ | ⟨m964, tg964, ln964, F964, x964, rfl, rfl, hx964, hC964, hM964, ho964, ht964, p965, p966, p967, p968, c969, c970, -⟩ := hq
              rotate_left
              ·
                have c971 : NM m m964 tg964 := NM_t c937 hx964 c970
                have lm972 := hx964.1
                refine Or.inr (Or.inr (Or.inl ⟨_, _, 136, rfl, cx_exc (c := 15) ho964 ht964 (by decide), rfl, ?_⟩))
                rw [← rv_x ho964]
                have hM973 := Fq_t (ln := ln) (ln1 := ln880) hM942 hX936 hM964 (by decide) (Or.inl rfl)
                have lm974 := hx964.1
                have ho975 : own m964 (me) ∧ tg964 (me) = 9 := Ex_o hx964 ⟨ho931.1, ho931.2⟩
                have ho976 : own m964 (sc) ∧ tg964 (sc) = 11 := Ex_o hx964 ⟨ho933.1, ho933.2⟩
                have ho977 : own m964 (pg) ∧ tg964 (pg) = 10 := Ex_o hx964 ⟨ho934.1, ho934.2⟩
                have hX978 := Ex_t hX936 hx964
                refine jx_ld (pc_q := 137) (l_q := jSto1 L 1 (rv (((x964 : Nat) : Int)))) (st_q := []) rfl (js_rvn (by decide)) ?_
                obtain ⟨L979, eL979⟩ : ∃ q : jL, q = jSto1 L 1 (rv (((x964 : Nat) : Int))) := ⟨_, rfl⟩
                rw [← eL979]
                have g980 : jGet L979 0 = some (rv (me)) := eL979 ▸ jg_nr (by decide) gL_0
                have g981 : jGet L979 1 = some (rv (((x964 : Nat) : Int))) := eL979 ▸ jg_eq
                clear eL979
                refine jx_ld (pc_q := 138) (l_q := L979) (st_q := [rv (me)]) rfl (jl_rvn g980) ?_
                refine jx_ar (pc_q := 139) (st_q := .null :: [rv (me)]) rfl rfl rfl rfl ?_
                rw [← rv_0]
                refine cx_po (pc_q := 142) (c := 8) (q := 2) (qi := (2 : Int)) (z := 0) rfl rfl (by decide) (by decide) rfl rfl rfl (by decide) rfl ho975.1 ho975.2 rfl ?_
                obtain ⟨F982, eF982⟩ : ∃ q, q = uF F964 (me) (2 : Int) (0) := ⟨_, rfl⟩
                rw [← eF982]
                have hC983 : HC 0 m964 tg964 ln964 F982 := by rw [eF982]; exact HC_fr (c := 8) (q := 2) (by decide) hC964 ho975.2 (by decide) rfl (Or.inl rfl) ⟨fun w => absurd w (by decide), fun w => absurd w (by decide)⟩
                have hM984 : Fq 0 [(7, 15), (9, 2), (9, 3), (10, 0), (10, 1), (10, 2), (10, 5), (10, 7), (10, 8), (10, 9), (11, 8), (11, 12), (11, 13), (11, 14), (11, 15), (11, 16), (11, 17), (11, 18), (24, -5), (25, -5), (26, -5)] m tg F F982 := by rw [eF982]; exact Fq_p hM973 ho975.2 (fun w => (hX978.2 _ w).1) rfl
                have c985 : NP m964 tg964 F982 := by rw [eF982]; exact NP_u hC964 c969 ho975.2 (by omega)
                have tb986 := tz_b (F881 (sc) (15 : Int))
                refine jx_rt (v := none) rfl rfl rfl rfl rfl rfl ?_
                have q987 : F982 (sc) (7 : Int) = F (sc) (7 : Int) := ((show F982 (sc) (7 : Int) = F964 (sc) (7 : Int) from by rw [eF982]; exact uF_j (by decide)).trans ((show F964 (sc) (7 : Int) = F940 (sc) (7 : Int) from hM964 _ _ ho933.1 (own_z ho933.1) (by rw [ho933.2]; rfl)).trans q955))
                have q988 : F982 (pg) (9 : Int) = F881 (pg) (9 : Int) := ((show F982 (pg) (9 : Int) = F964 (pg) (9 : Int) from by rw [eF982]; exact uF_j (by decide)).trans ((show F964 (pg) (9 : Int) = F940 (pg) (9 : Int) from hM964 _ _ ho934.1 (own_z ho934.1) (by rw [ho934.2]; rfl)).trans (show F940 (pg) (9 : Int) = F881 (pg) (9 : Int) from by rw [eF940]; exact uF_j (by decide))))
                have q989 : F982 (pg) (3 : Int) = F (pg) (3 : Int) := ((show F982 (pg) (3 : Int) = F964 (pg) (3 : Int) from by rw [eF982]; exact uF_j (by decide)).trans ((show F964 (pg) (3 : Int) = F940 (pg) (3 : Int) from hM964 _ _ ho934.1 (own_z ho934.1) (by rw [ho934.2]; rfl)).trans ((show F940 (pg) (3 : Int) = F881 (pg) (3 : Int) from by rw [eF940]; exact uF_j (by decide)).trans ((show F881 (pg) (3 : Int) = Fx (pg) (3 : Int) from hM885 _ _ ho4.1 (own_z ho4.1) (by rw [ho4.2]; rfl)).trans (show Fx (pg) (3 : Int) = F (pg) (3 : Int) from hMx _ _ o_pg (own_z o_pg) (by rw [t_pg]; rfl))))))
                have q990 : F982 (pg) (0 : Int) = F964 (pg) (0 : Int) := (show F982 (pg) (0 : Int) = F964 (pg) (0 : Int) from by rw [eF982]; exact uF_j (by decide))
                have q991 : F982 (pg) (9 : Int) = F881 (pg) (9 : Int) := q988
                exact ⟨m964, tg964, ln964, F982, rfl, rfl, hX978, hC983, hM984, by omega, by omega, by omega, (Or.inl (by omega)), c985, c971, trivial⟩
              exact p961.elim
          · have _q := h875
            have t992 : lz (Fx (sc) (14 : Int)) = 1 := lz_p (by omega)
            refine jx_ld (pc_q := 75) (l_q := L) (st_q := [rv (me)]) rfl (jl_rvn gL_0) ?_
            refine cx_gr (pc_q := 78) (c := 8) (q := 1) (v := sc) rfl rfl (by decide) (by decide) rfl rfl ho2.1 ho2.2 ((show Fx (me) (1 : Int) = F (me) (1 : Int) from hMx _ _ o_me (own_z o_me) (by rw [t_me]; rfl)).trans e_sc) ?_
            refine cx_gi (pc_q := 81) (c := 10) (q := 15) (v := Fx (sc) (15 : Int)) rfl rfl (by decide) (by decide) (Or.inl rfl) rfl ho3.1 ho3.2 rfl ?_
            refine jx_ar (pc_q := 83) (st_q := [.int (i32 (30)), .int (i32 (Fx (sc) (15 : Int)))]) rfl rfl rfl rfl ?_
            refine jx_icmp_eq (pc_q := 86) (tg := 98) rfl rfl rfl (by omega) (by omega) (by decide) (by decide) (fun h993 => ?_) (fun h993 => ?_)
            · have _q := h993
              have t994 : tz (Fx (sc) (15 : Int)) = 1 := tz_p (by omega)
              refine jx_ld (pc_q := 99) (l_q := L) (st_q := [rv (me)]) rfl (jl_rvn gL_0) ?_
              have q995 := tz_b (Fx (sc) (15 : Int))
              have q996 : Fx (sc) (7 : Int) = F (sc) (7 : Int) := (show Fx (sc) (7 : Int) = F (sc) (7 : Int) from hMx _ _ o_sc (own_z o_sc) (by rw [t_sc]; rfl))
              have q997 := lz_b (Fx (sc) (14 : Int))
              refine cx_vi (c := 8) (a := me) (st := []) (as := []) rfl rfl rfl ho2.1 ho2.2 (by decide) rfl ⟨rfl, rfl, (Nat.le_of_ble_eq_true rfl)⟩ rfl (k_LParser_readPlaced (dd := d) (R := R) (m := mx) (tg := tgx) (ln := lnx) (F := Fx) (me := me) (hd := by omega) (hC := hCx) (o_me := ho2.1) (t_me := ho2.2) (sc := sc) (pg := pg) (o_sc := ho3.1) (t_sc := ho3.2) (e_sc := ((show Fx (me) (1 : Int) = F (me) (1 : Int) from hMx _ _ o_me (own_z o_me) (by rw [t_me]; rfl)).trans e_sc)) (o_pg := ho4.1) (t_pg := ho4.2) (e_pg := ((show Fx (me) (0 : Int) = F (me) (0 : Int) from hMx _ _ o_me (own_z o_me) (by rw [t_me]; rfl)).trans e_pg)) (p_0 := by omega) (p_1 := by omega) (c_NP := cx_NP) (cr := 0) (c_CR := CR_e iv_9 (show Fx (pg) (3 : Int) = F (pg) (3 : Int) from hMx _ _ o_pg (own_z o_pg) (by rw [t_pg]; rfl)))) (fun o V_q hq => ?_)
              obtain ⟨m998, tg998, ln998, F999, rfl, rfl, hx1000, hC1001, hM1002, p1003, p1004, p1005, p1006, p1007, p1008, c1009, c1010, c1011, -⟩ | ⟨m1012, tg1012, ln1012, F1012, x1012, rfl, rfl, hx1012, hC1012, hM1012, ho1012, ht1012, p1013, p1014, p1015, p1016, c1017, c1018, -⟩ := hq
              rotate_left
              ·
                have c1019 : NM m m1012 tg1012 := NM_t cx_NM hx1012 c1018
                have lm1020 := hx1012.1
                refine Or.inr (Or.inr (Or.inl ⟨_, _, 136, rfl, cx_exc (c := 15) ho1012 ht1012 (by decide), rfl, ?_⟩))
                rw [← rv_x ho1012]
                have hM1021 := Fq_t (ln := ln) (ln1 := lnx) hMx hXx hM1012 (by decide) (Or.inl rfl)
                have lm1022 := hx1012.1
                have ho1023 : own m1012 (me) ∧ tg1012 (me) = 9 := Ex_o hx1012 ⟨ho2.1, ho2.2⟩
                have ho1024 : own m1012 (sc) ∧ tg1012 (sc) = 11 := Ex_o hx1012 ⟨ho3.1, ho3.2⟩
                have ho1025 : own m1012 (pg) ∧ tg1012 (pg) = 10 := Ex_o hx1012 ⟨ho4.1, ho4.2⟩
                have hX1026 := Ex_t hXx hx1012
                refine jx_ld (pc_q := 137) (l_q := jSto1 L 1 (rv (((x1012 : Nat) : Int)))) (st_q := []) rfl (js_rvn (by decide)) ?_
                obtain ⟨L1027, eL1027⟩ : ∃ q : jL, q = jSto1 L 1 (rv (((x1012 : Nat) : Int))) := ⟨_, rfl⟩
                rw [← eL1027]
                have g1028 : jGet L1027 0 = some (rv (me)) := eL1027 ▸ jg_nr (by decide) gL_0
                have g1029 : jGet L1027 1 = some (rv (((x1012 : Nat) : Int))) := eL1027 ▸ jg_eq
                clear eL1027
                refine jx_ld (pc_q := 138) (l_q := L1027) (st_q := [rv (me)]) rfl (jl_rvn g1028) ?_
                refine jx_ar (pc_q := 139) (st_q := .null :: [rv (me)]) rfl rfl rfl rfl ?_
                rw [← rv_0]
                refine cx_po (pc_q := 142) (c := 8) (q := 2) (qi := (2 : Int)) (z := 0) rfl rfl (by decide) (by decide) rfl rfl rfl (by decide) rfl ho1023.1 ho1023.2 rfl ?_
                obtain ⟨F1030, eF1030⟩ : ∃ q, q = uF F1012 (me) (2 : Int) (0) := ⟨_, rfl⟩
                rw [← eF1030]
                have hC1031 : HC 0 m1012 tg1012 ln1012 F1030 := by rw [eF1030]; exact HC_fr (c := 8) (q := 2) (by decide) hC1012 ho1023.2 (by decide) rfl (Or.inl rfl) ⟨fun w => absurd w (by decide), fun w => absurd w (by decide)⟩
                have hM1032 : Fq 0 [(7, 15), (9, 2), (9, 3), (10, 0), (10, 1), (10, 2), (10, 5), (10, 7), (10, 8), (10, 9), (11, 8), (11, 12), (11, 13), (11, 14), (11, 15), (11, 16), (11, 17), (11, 18), (24, -5), (25, -5), (26, -5)] m tg F F1030 := by rw [eF1030]; exact Fq_p hM1021 ho1023.2 (fun w => (hX1026.2 _ w).1) rfl
                have c1033 : NP m1012 tg1012 F1030 := by rw [eF1030]; exact NP_u hC1012 c1017 ho1023.2 (by omega)
                have tb1034 := tz_b (F1012 (sc) (15 : Int))
                refine jx_rt (v := none) rfl rfl rfl rfl rfl rfl ?_
                have q1035 : F1030 (sc) (7 : Int) = F (sc) (7 : Int) := ((show F1030 (sc) (7 : Int) = F1012 (sc) (7 : Int) from by rw [eF1030]; exact uF_j (by decide)).trans ((show F1012 (sc) (7 : Int) = Fx (sc) (7 : Int) from hM1012 _ _ ho3.1 (own_z ho3.1) (by rw [ho3.2]; rfl)).trans (show Fx (sc) (7 : Int) = F (sc) (7 : Int) from hMx _ _ o_sc (own_z o_sc) (by rw [t_sc]; rfl))))
                have q1036 : F1030 (pg) (9 : Int) = F1012 (pg) (9 : Int) := (show F1030 (pg) (9 : Int) = F1012 (pg) (9 : Int) from by rw [eF1030]; exact uF_j (by decide))
                have q1037 : F1030 (pg) (3 : Int) = F (pg) (3 : Int) := ((show F1030 (pg) (3 : Int) = F1012 (pg) (3 : Int) from by rw [eF1030]; exact uF_j (by decide)).trans ((show F1012 (pg) (3 : Int) = Fx (pg) (3 : Int) from hM1012 _ _ ho4.1 (own_z ho4.1) (by rw [ho4.2]; rfl)).trans (show Fx (pg) (3 : Int) = F (pg) (3 : Int) from hMx _ _ o_pg (own_z o_pg) (by rw [t_pg]; rfl))))
                have q1038 : F1030 (pg) (0 : Int) = F1012 (pg) (0 : Int) := (show F1030 (pg) (0 : Int) = F1012 (pg) (0 : Int) from by rw [eF1030]; exact uF_j (by decide))
                have q1039 : F1030 (pg) (9 : Int) = F1012 (pg) (9 : Int) := q1036
                exact ⟨m1012, tg1012, ln1012, F1030, rfl, rfl, hX1026, hC1031, hM1032, by omega, by omega, by omega, (Or.inl (by omega)), c1033, c1019, trivial⟩
              have hM1040 : Fq 0 [(7, 15), (9, 2), (9, 3), (10, 0), (10, 1), (10, 2), (10, 5), (10, 7), (10, 8), (10, 9), (11, 8), (11, 12), (11, 13), (11, 14), (11, 15), (11, 16), (11, 17), (11, 18), (24, -5), (25, -5), (26, -5)] m tg F F999 := Fq_t (ln := ln) (ln1 := lnx) hMx hXx hM1002 (by decide) (Or.inl rfl)
              have lm1041 := hx1000.1
              have ho1042 : own m998 (me) ∧ tg998 (me) = 9 := Ex_o hx1000 ⟨ho2.1, ho2.2⟩
              have ho1043 : own m998 (sc) ∧ tg998 (sc) = 11 := Ex_o hx1000 ⟨ho3.1, ho3.2⟩
              have ho1044 : own m998 (pg) ∧ tg998 (pg) = 10 := Ex_o hx1000 ⟨ho4.1, ho4.2⟩
              have hX1045 := Ex_t hXx hx1000
              have c1046 : NM m m998 tg998 := NM_t cx_NM hx1000 c1010
              have c1047 : CR m998 tg998 F999 (F pg (3 : Int)) ((0) + (F999 sc (8 : Int) - Fx sc (8 : Int) - 3) / 4) := CR_e2 c1011 (show Fx (pg) (3 : Int) = F (pg) (3 : Int) from hMx _ _ o_pg (own_z o_pg) (by rw [t_pg]; rfl))
              refine Or.inl ⟨rfl, ?_⟩
              refine jx_go (tg := 119) rfl rfl ?_
              have tb1048 := tz_b (F999 (sc) (15 : Int))
              refine jx_ld (pc_q := 120) (l_q := L) (st_q := [rv (me)]) rfl (jl_rvn gL_0) ?_
              refine cx_gr (pc_q := 123) (c := 8) (q := 1) (v := sc) rfl rfl (by decide) (by decide) rfl rfl ho1042.1 ho1042.2 (((show F999 (me) (1 : Int) = Fx (me) (1 : Int) from hM1002 _ _ ho2.1 (own_z ho2.1) (by rw [ho2.2]; rfl)).trans (show Fx (me) (1 : Int) = F (me) (1 : Int) from hMx _ _ o_me (own_z o_me) (by rw [t_me]; rfl))).trans e_sc) ?_
              refine cx_gi (pc_q := 126) (c := 10) (q := 12) (v := F999 (sc) (12 : Int)) rfl rfl (by decide) (by decide) (Or.inr rfl) rfl ho1043.1 ho1043.2 rfl ?_
              have b1049 : (0 : Int) ≤ F999 (sc) (12 : Int) ∧ F999 (sc) (12 : Int) ≤ 1 := by have z := HC_i (c := 10) (q := 12) hC1001 ho1043.1 ho1043.2 (by decide) rfl; rw [show F999 (sc) ((12 : Nat) : Int) = F999 (sc) (12 : Int) from rfl] at z; exact z
              refine jx_if_ne (pc_q := 129) (tg := 133) rfl rfl rfl (by omega) (by omega) (fun h1050 => ?_) (fun h1050 => ?_)
              · have _q := h1050
                refine jx_go (tg := 142) rfl rfl ?_
                have tb1051 := tz_b (F999 (sc) (15 : Int))
                refine jx_rt (v := none) rfl rfl rfl rfl rfl rfl ?_
                have q1052 : F999 (sc) (7 : Int) = F (sc) (7 : Int) := ((show F999 (sc) (7 : Int) = Fx (sc) (7 : Int) from hM1002 _ _ ho3.1 (own_z ho3.1) (by rw [ho3.2]; rfl)).trans (show Fx (sc) (7 : Int) = F (sc) (7 : Int) from hMx _ _ o_sc (own_z o_sc) (by rw [t_sc]; rfl)))
                have q1053 : F999 (pg) (3 : Int) = F (pg) (3 : Int) := ((show F999 (pg) (3 : Int) = Fx (pg) (3 : Int) from hM1002 _ _ ho4.1 (own_z ho4.1) (by rw [ho4.2]; rfl)).trans (show Fx (pg) (3 : Int) = F (pg) (3 : Int) from hMx _ _ o_pg (own_z o_pg) (by rw [t_pg]; rfl)))
                exact ⟨m998, tg998, ln998, F999, rfl, rfl, hX1045, hC1001, hM1040, by omega, by omega, by omega, (Or.inr (by have z := c1047.2.2; omega)), c1009, c1046, trivial⟩
              · have _q := h1050
                refine jx_ld (pc_q := 130) (l_q := L) (st_q := [rv (me)]) rfl (jl_rvn gL_0) ?_
                have q1054 : F999 (sc) (7 : Int) = F (sc) (7 : Int) := ((show F999 (sc) (7 : Int) = Fx (sc) (7 : Int) from hM1002 _ _ ho3.1 (own_z ho3.1) (by rw [ho3.2]; rfl)).trans (show Fx (sc) (7 : Int) = F (sc) (7 : Int) from hMx _ _ o_sc (own_z o_sc) (by rw [t_sc]; rfl)))
                refine cx_vi (c := 8) (a := me) (st := []) (as := []) rfl rfl rfl ho1042.1 ho1042.2 (by decide) rfl ⟨rfl, rfl, (Nat.le_of_ble_eq_true rfl)⟩ rfl (k_LParser_form (dd := d) (R := R) (m := m998) (tg := tg998) (ln := ln998) (F := F999) (me := me) (hd := by omega) (hC := hC1001) (o_me := ho1042.1) (t_me := ho1042.2) (sc := sc) (pg := pg) (o_sc := ho1043.1) (t_sc := ho1043.2) (e_sc := (((show F999 (me) (1 : Int) = Fx (me) (1 : Int) from hM1002 _ _ ho2.1 (own_z ho2.1) (by rw [ho2.2]; rfl)).trans (show Fx (me) (1 : Int) = F (me) (1 : Int) from hMx _ _ o_me (own_z o_me) (by rw [t_me]; rfl))).trans e_sc)) (o_pg := ho1044.1) (t_pg := ho1044.2) (e_pg := (((show F999 (me) (0 : Int) = Fx (me) (0 : Int) from hM1002 _ _ ho2.1 (own_z ho2.1) (by rw [ho2.2]; rfl)).trans (show Fx (me) (0 : Int) = F (me) (0 : Int) from hMx _ _ o_me (own_z o_me) (by rw [t_me]; rfl))).trans e_pg)) (p_0 := by omega) (c_NP := c1009)) (fun o V_q hq => ?_)
                obtain ⟨m1055, tg1055, ln1055, F1056, rfl, rfl, hx1057, hC1058, hM1059, p1060, c1061, c1062, -⟩ | ⟨m1063, tg1063, ln1063, F1063, x1063, rfl, rfl, hx1063, hC1063, hM1063, ho1063, ht1063, p1064, p1065, p1066, p1067, c1068, c1069, -⟩ := hq
                rotate_left
                ·
                  have c1070 : NM m m1063 tg1063 := NM_t c1046 hx1063 c1069
                  have lm1071 := hx1063.1
                  refine Or.inr (Or.inr (Or.inl ⟨_, _, 136, rfl, cx_exc (c := 15) ho1063 ht1063 (by decide), rfl, ?_⟩))
                  rw [← rv_x ho1063]
                  have hM1072 := Fq_t (ln := ln) (ln1 := ln998) hM1040 hX1045 hM1063 (by decide) (Or.inl rfl)
                  have lm1073 := hx1063.1
                  have ho1074 : own m1063 (me) ∧ tg1063 (me) = 9 := Ex_o hx1063 ⟨ho1042.1, ho1042.2⟩
                  have ho1075 : own m1063 (sc) ∧ tg1063 (sc) = 11 := Ex_o hx1063 ⟨ho1043.1, ho1043.2⟩
                  have ho1076 : own m1063 (pg) ∧ tg1063 (pg) = 10 := Ex_o hx1063 ⟨ho1044.1, ho1044.2⟩
                  have hX1077 := Ex_t hX1045 hx1063
                  refine jx_ld (pc_q := 137) (l_q := jSto1 L 1 (rv (((x1063 : Nat) : Int)))) (st_q := []) rfl (js_rvn (by decide)) ?_
                  obtain ⟨L1078, eL1078⟩ : ∃ q : jL, q = jSto1 L 1 (rv (((x1063 : Nat) : Int))) := ⟨_, rfl⟩
                  rw [← eL1078]
                  have g1079 : jGet L1078 0 = some (rv (me)) := eL1078 ▸ jg_nr (by decide) gL_0
                  have g1080 : jGet L1078 1 = some (rv (((x1063 : Nat) : Int))) := eL1078 ▸ jg_eq
                  clear eL1078
                  refine jx_ld (pc_q := 138) (l_q := L1078) (st_q := [rv (me)]) rfl (jl_rvn g1079) ?_
                  refine jx_ar (pc_q := 139) (st_q := .null :: [rv (me)]) rfl rfl rfl rfl ?_
                  rw [← rv_0]
                  refine cx_po (pc_q := 142) (c := 8) (q := 2) (qi := (2 : Int)) (z := 0) rfl rfl (by decide) (by decide) rfl rfl rfl (by decide) rfl ho1074.1 ho1074.2 rfl ?_
                  obtain ⟨F1081, eF1081⟩ : ∃ q, q = uF F1063 (me) (2 : Int) (0) := ⟨_, rfl⟩
                  rw [← eF1081]
                  have hC1082 : HC 0 m1063 tg1063 ln1063 F1081 := by rw [eF1081]; exact HC_fr (c := 8) (q := 2) (by decide) hC1063 ho1074.2 (by decide) rfl (Or.inl rfl) ⟨fun w => absurd w (by decide), fun w => absurd w (by decide)⟩
                  have hM1083 : Fq 0 [(7, 15), (9, 2), (9, 3), (10, 0), (10, 1), (10, 2), (10, 5), (10, 7), (10, 8), (10, 9), (11, 8), (11, 12), (11, 13), (11, 14), (11, 15), (11, 16), (11, 17), (11, 18), (24, -5), (25, -5), (26, -5)] m tg F F1081 := by rw [eF1081]; exact Fq_p hM1072 ho1074.2 (fun w => (hX1077.2 _ w).1) rfl
                  have c1084 : NP m1063 tg1063 F1081 := by rw [eF1081]; exact NP_u hC1063 c1068 ho1074.2 (by omega)
                  have tb1085 := tz_b (F999 (sc) (15 : Int))
                  refine jx_rt (v := none) rfl rfl rfl rfl rfl rfl ?_
                  have q1086 : F1081 (sc) (7 : Int) = F (sc) (7 : Int) := ((show F1081 (sc) (7 : Int) = F1063 (sc) (7 : Int) from by rw [eF1081]; exact uF_j (by decide)).trans ((show F1063 (sc) (7 : Int) = F999 (sc) (7 : Int) from hM1063 _ _ ho1043.1 (own_z ho1043.1) (by rw [ho1043.2]; rfl)).trans q1054))
                  have q1087 : F1081 (pg) (9 : Int) = F999 (pg) (9 : Int) := ((show F1081 (pg) (9 : Int) = F1063 (pg) (9 : Int) from by rw [eF1081]; exact uF_j (by decide)).trans (show F1063 (pg) (9 : Int) = F999 (pg) (9 : Int) from hM1063 _ _ ho1044.1 (own_z ho1044.1) (by rw [ho1044.2]; rfl)))
                  have q1088 : F1081 (pg) (3 : Int) = F (pg) (3 : Int) := ((show F1081 (pg) (3 : Int) = F1063 (pg) (3 : Int) from by rw [eF1081]; exact uF_j (by decide)).trans ((show F1063 (pg) (3 : Int) = F999 (pg) (3 : Int) from hM1063 _ _ ho1044.1 (own_z ho1044.1) (by rw [ho1044.2]; rfl)).trans ((show F999 (pg) (3 : Int) = Fx (pg) (3 : Int) from hM1002 _ _ ho4.1 (own_z ho4.1) (by rw [ho4.2]; rfl)).trans (show Fx (pg) (3 : Int) = F (pg) (3 : Int) from hMx _ _ o_pg (own_z o_pg) (by rw [t_pg]; rfl)))))
                  have q1089 : F1081 (pg) (0 : Int) = F1063 (pg) (0 : Int) := (show F1081 (pg) (0 : Int) = F1063 (pg) (0 : Int) from by rw [eF1081]; exact uF_j (by decide))
                  have q1090 : F1081 (pg) (9 : Int) = F999 (pg) (9 : Int) := q1087
                  exact ⟨m1063, tg1063, ln1063, F1081, rfl, rfl, hX1077, hC1082, hM1083, by omega, by omega, by omega, (Or.inl (by omega)), c1084, c1070, trivial⟩
                exact p1060.elim
            · have _q := h993
              refine jx_ld (pc_q := 87) (l_q := L) (st_q := [rv (me)]) rfl (jl_rvn gL_0) ?_
              refine cx_gr (pc_q := 90) (c := 8) (q := 1) (v := sc) rfl rfl (by decide) (by decide) rfl rfl ho2.1 ho2.2 ((show Fx (me) (1 : Int) = F (me) (1 : Int) from hMx _ _ o_me (own_z o_me) (by rw [t_me]; rfl)).trans e_sc) ?_
              refine cx_gi (pc_q := 93) (c := 10) (q := 15) (v := Fx (sc) (15 : Int)) rfl rfl (by decide) (by decide) (Or.inl rfl) rfl ho3.1 ho3.2 rfl ?_
              refine jx_ar (pc_q := 95) (st_q := [.int (i32 (28)), .int (i32 (Fx (sc) (15 : Int)))]) rfl rfl rfl rfl ?_
              refine jx_icmp_ne (pc_q := 98) (tg := 105) rfl rfl rfl (by omega) (by omega) (by decide) (by decide) (fun h1091 => ?_) (fun h1091 => ?_)
              · have _q := h1091
                refine jx_ld (pc_q := 106) (l_q := L) (st_q := [rv (me)]) rfl (jl_rvn gL_0) ?_
                refine cx_gr (pc_q := 109) (c := 8) (q := 0) (v := pg) rfl rfl (by decide) (by decide) rfl rfl ho2.1 ho2.2 ((show Fx (me) (0 : Int) = F (me) (0 : Int) from hMx _ _ o_me (own_z o_me) (by rw [t_me]; rfl)).trans e_pg) ?_
                refine cx_gr (pc_q := 112) (c := 9) (q := 3) (v := F (pg) (3 : Int)) rfl rfl (by decide) (by decide) rfl rfl ho4.1 ho4.2 (show Fx (pg) (3 : Int) = F (pg) (3 : Int) from hMx _ _ o_pg (own_z o_pg) (by rw [t_pg]; rfl)) ?_
                have y1092 : own mx (F (pg) (3 : Int)) ∧ tgx (F (pg) (3 : Int)) = 24 ∧ ((6 : Int) ≠ 0 → lnx (F (pg) (3 : Int)) = 6) := by have z := HC_n (c := 9) (q := 3) hCx ho4.1 ho4.2 (own_z ho4.1) (by decide) rfl; rw [show Fx (pg) ((3 : Nat) : Int) = F (pg) (3 : Int) from (show Fx (pg) (3 : Int) = F (pg) (3 : Int) from hMx _ _ o_pg (own_z o_pg) (by rw [t_pg]; rfl))] at z; exact ⟨z.1, z.2.1, z.2.2.1⟩
                have ly1092 : lnx (F (pg) (3 : Int)) = 6 := y1092.2.2 (by decide)
                refine jx_ar (pc_q := 113) (st_q := [.int (i32 (0)), rv (F (pg) (3 : Int))]) rfl rfl rfl rfl ?_
                refine jx_ld (pc_q := 114) (l_q := L) (st_q := [rv (me), .int (i32 (0)), rv (F (pg) (3 : Int))]) rfl (jl_rvn gL_0) ?_
                refine jx_ar (pc_q := 115) (st_q := [.int (i32 (0)), rv (me), .int (i32 (0)), rv (F (pg) (3 : Int))]) rfl rfl rfl rfl ?_
                have q1093 := tz_b (Fx (sc) (15 : Int))
                have q1094 : Fx (sc) (7 : Int) = F (sc) (7 : Int) := (show Fx (sc) (7 : Int) = F (sc) (7 : Int) from hMx _ _ o_sc (own_z o_sc) (by rw [t_sc]; rfl))
                have q1095 := lz_b (Fx (sc) (14 : Int))
                refine cx_vi (c := 8) (a := me) (st := [.int (i32 (0)), rv (F (pg) (3 : Int))]) (as := [.int (i32 (0))]) rfl rfl rfl ho2.1 ho2.2 (by decide) rfl ⟨rfl, rfl, (by rw [jS_i, jS_r, jS_0]; exact Nat.le_of_ble_eq_true rfl)⟩ rfl (PPx_all X 18 (dd := d) (R := R) (m := mx) (tg := tgx) (ln := lnx) (F := Fx) (me := me) (lv := 0) (hd := by omega) (hC := hCx) (o_me := ho2.1) (t_me := ho2.2) (h_lv := by omega) (sc := sc) (pg := pg) (o_sc := ho3.1) (t_sc := ho3.2) (e_sc := ((show Fx (me) (1 : Int) = F (me) (1 : Int) from hMx _ _ o_me (own_z o_me) (by rw [t_me]; rfl)).trans e_sc)) (o_pg := ho4.1) (t_pg := ho4.2) (e_pg := ((show Fx (me) (0 : Int) = F (me) (0 : Int) from hMx _ _ o_me (own_z o_me) (by rw [t_me]; rfl)).trans e_pg)) (p_0 := by omega) (p_1 := by omega) (p_2 := by omega) (p_3 := by omega) (c_NP := cx_NP)) (fun o V_q hq => ?_)
                obtain ⟨m1096, tg1096, ln1096, F1097, r1098, rfl, rfl, hx1099, hC1100, hM1101, b1102, p1103, p1104, p1105, p1106, p1107, p1108, p1109, p1110, p1111, p1112, p1113, p1114, c1115, c1116, -⟩ | ⟨m1117, tg1117, ln1117, F1117, x1117, rfl, rfl, hx1117, hC1117, hM1117, ho1117, ht1117, p1118, p1119, p1120, p1121, c1122, c1123, -⟩ := hq
                rotate_left
                ·
                  have c1124 : NM m m1117 tg1117 := NM_t cx_NM hx1117 c1123
                  have lm1125 := hx1117.1
                  refine Or.inr (Or.inr (Or.inl ⟨_, _, 136, rfl, cx_exc (c := 15) ho1117 ht1117 (by decide), rfl, ?_⟩))
                  rw [← rv_x ho1117]
                  have hM1126 := Fq_t (ln := ln) (ln1 := lnx) hMx hXx hM1117 (by decide) (Or.inl rfl)
                  have lm1127 := hx1117.1
                  have ho1128 : own m1117 (me) ∧ tg1117 (me) = 9 := Ex_o hx1117 ⟨ho2.1, ho2.2⟩
                  have ho1129 : own m1117 (sc) ∧ tg1117 (sc) = 11 := Ex_o hx1117 ⟨ho3.1, ho3.2⟩
                  have ho1130 : own m1117 (pg) ∧ tg1117 (pg) = 10 := Ex_o hx1117 ⟨ho4.1, ho4.2⟩
                  have hX1131 := Ex_t hXx hx1117
                  refine jx_ld (pc_q := 137) (l_q := jSto1 L 1 (rv (((x1117 : Nat) : Int)))) (st_q := []) rfl (js_rvn (by decide)) ?_
                  obtain ⟨L1132, eL1132⟩ : ∃ q : jL, q = jSto1 L 1 (rv (((x1117 : Nat) : Int))) := ⟨_, rfl⟩
                  rw [← eL1132]
                  have g1133 : jGet L1132 0 = some (rv (me)) := eL1132 ▸ jg_nr (by decide) gL_0
                  have g1134 : jGet L1132 1 = some (rv (((x1117 : Nat) : Int))) := eL1132 ▸ jg_eq
                  clear eL1132
                  refine jx_ld (pc_q := 138) (l_q := L1132) (st_q := [rv (me)]) rfl (jl_rvn g1133) ?_
                  refine jx_ar (pc_q := 139) (st_q := .null :: [rv (me)]) rfl rfl rfl rfl ?_
                  rw [← rv_0]
                  refine cx_po (pc_q := 142) (c := 8) (q := 2) (qi := (2 : Int)) (z := 0) rfl rfl (by decide) (by decide) rfl rfl rfl (by decide) rfl ho1128.1 ho1128.2 rfl ?_
                  obtain ⟨F1135, eF1135⟩ : ∃ q, q = uF F1117 (me) (2 : Int) (0) := ⟨_, rfl⟩
                  rw [← eF1135]
                  have hC1136 : HC 0 m1117 tg1117 ln1117 F1135 := by rw [eF1135]; exact HC_fr (c := 8) (q := 2) (by decide) hC1117 ho1128.2 (by decide) rfl (Or.inl rfl) ⟨fun w => absurd w (by decide), fun w => absurd w (by decide)⟩
                  have hM1137 : Fq 0 [(7, 15), (9, 2), (9, 3), (10, 0), (10, 1), (10, 2), (10, 5), (10, 7), (10, 8), (10, 9), (11, 8), (11, 12), (11, 13), (11, 14), (11, 15), (11, 16), (11, 17), (11, 18), (24, -5), (25, -5), (26, -5)] m tg F F1135 := by rw [eF1135]; exact Fq_p hM1126 ho1128.2 (fun w => (hX1131.2 _ w).1) rfl
                  have c1138 : NP m1117 tg1117 F1135 := by rw [eF1135]; exact NP_u hC1117 c1122 ho1128.2 (by omega)
                  have tb1139 := tz_b (F1117 (sc) (15 : Int))
                  refine jx_rt (v := none) rfl rfl rfl rfl rfl rfl ?_
                  have q1140 : F1135 (sc) (7 : Int) = F (sc) (7 : Int) := ((show F1135 (sc) (7 : Int) = F1117 (sc) (7 : Int) from by rw [eF1135]; exact uF_j (by decide)).trans ((show F1117 (sc) (7 : Int) = Fx (sc) (7 : Int) from hM1117 _ _ ho3.1 (own_z ho3.1) (by rw [ho3.2]; rfl)).trans (show Fx (sc) (7 : Int) = F (sc) (7 : Int) from hMx _ _ o_sc (own_z o_sc) (by rw [t_sc]; rfl))))
                  have q1141 : F1135 (pg) (9 : Int) = F1117 (pg) (9 : Int) := (show F1135 (pg) (9 : Int) = F1117 (pg) (9 : Int) from by rw [eF1135]; exact uF_j (by decide))
                  have q1142 : F1135 (pg) (3 : Int) = F (pg) (3 : Int) := ((show F1135 (pg) (3 : Int) = F1117 (pg) (3 : Int) from by rw [eF1135]; exact uF_j (by decide)).trans ((show F1117 (pg) (3 : Int) = Fx (pg) (3 : Int) from hM1117 _ _ ho4.1 (own_z ho4.1) (by rw [ho4.2]; rfl)).trans (show Fx (pg) (3 : Int) = F (pg) (3 : Int) from hMx _ _ o_pg (own_z o_pg) (by rw [t_pg]; rfl))))
                  have q1143 : F1135 (pg) (0 : Int) = F1117 (pg) (0 : Int) := (show F1135 (pg) (0 : Int) = F1117 (pg) (0 : Int) from by rw [eF1135]; exact uF_j (by decide))
                  have q1144 : F1135 (pg) (9 : Int) = F1117 (pg) (9 : Int) := q1141
                  exact ⟨m1117, tg1117, ln1117, F1135, rfl, rfl, hX1131, hC1136, hM1137, by omega, by omega, by omega, (Or.inl (by omega)), c1138, c1124, trivial⟩
                have hM1145 : Fq 0 [(7, 15), (9, 2), (9, 3), (10, 0), (10, 1), (10, 2), (10, 5), (10, 7), (10, 8), (10, 9), (11, 8), (11, 12), (11, 13), (11, 14), (11, 15), (11, 16), (11, 17), (11, 18), (24, -5), (25, -5), (26, -5)] m tg F F1097 := Fq_t (ln := ln) (ln1 := lnx) hMx hXx hM1101 (by decide) (Or.inl rfl)
                have lm1146 := hx1099.1
                have ho1147 : own m1096 (me) ∧ tg1096 (me) = 9 := Ex_o hx1099 ⟨ho2.1, ho2.2⟩
                have ho1148 : own m1096 (F (pg) (3 : Int)) ∧ tg1096 (F (pg) (3 : Int)) = 24 := Ex_o hx1099 ⟨y1092.1, y1092.2.1⟩
                have ho1149 : own m1096 (sc) ∧ tg1096 (sc) = 11 := Ex_o hx1099 ⟨ho3.1, ho3.2⟩
                have ho1150 : own m1096 (pg) ∧ tg1096 (pg) = 10 := Ex_o hx1099 ⟨ho4.1, ho4.2⟩
                have ln1151 : ln1096 (F (pg) (3 : Int)) = 6 := (hx1099.2 _ y1092.1).2.trans ly1092
                have hX1152 := Ex_t hXx hx1099
                have c1153 : NM m m1096 tg1096 := NM_t cx_NM hx1099 c1116
                have c1154 : CR m1096 tg1096 F1097 (F pg (3 : Int)) (0) := CR_x iv_9 hx1099 hM1101 rfl
                refine Or.inr (Or.inl ⟨_, rfl, ?_⟩)
                have b1155 := HC_l hC1100 ho1148.1 ho1148.2 (by decide)
                refine cx_aas (pc_q := 119) (c := 7) (z := 0) (y := r1098) rfl rfl ho1148.1 (by rw [ho1148.2]; decide) (by omega) (by omega) (by omega) (fun hz => (Or.inr ⟨b1102.1, b1102.2⟩).resolve_left hz) (by decide) (by rw [ho1148.2]; rfl) ?_
                obtain ⟨F1156, eF1156⟩ : ∃ q, q = uF F1097 (F (pg) (3 : Int)) (0 : Int) (r1098) := ⟨_, rfl⟩
                rw [← eF1156]
                have hC1157 : HC 0 m1096 tg1096 ln1096 F1156 := by rw [eF1156]; exact HC_pa hC1100 ho1148.1 ho1148.2 (by decide) (by omega) (Or.inr ⟨b1102.1, b1102.2⟩)
                have hM1158 : Fq 0 [(7, 15), (9, 2), (9, 3), (10, 0), (10, 1), (10, 2), (10, 5), (10, 7), (10, 8), (10, 9), (11, 8), (11, 12), (11, 13), (11, 14), (11, 15), (11, 16), (11, 17), (11, 18), (24, -5), (25, -5), (26, -5)] m tg F F1156 := by rw [eF1156]; exact Fq_p hM1145 ho1148.2 (fun w => (hX1152.2 _ w).1) (inL_a rfl (by omega) rfl)
                have c1159 : NP m1096 tg1096 F1156 := by rw [eF1156]; exact NP_rt hC1100 c1115 ho1148.2 (show F1097 (F (pg) (3 : Int)) (-1) = 0 by have z := HC_n (c := 9) (q := 3) hC1100 ho1150.1 ho1150.2 (own_z ho1150.1) (by decide) rfl; rw [show F1097 (pg) ((3 : Nat) : Int) = F (pg) (3 : Int) from ((show F1097 (pg) (3 : Int) = Fx (pg) (3 : Int) from hM1101 _ _ ho4.1 (own_z ho4.1) (by rw [ho4.2]; rfl)).trans (show Fx (pg) (3 : Int) = F (pg) (3 : Int) from hMx _ _ o_pg (own_z o_pg) (by rw [t_pg]; rfl)))] at z; exact z.2.2.2 (by decide)) (by omega) (SN_i b1102.1 b1102.2 (by omega) (by omega) (by omega))
                have c1160 : CR m1096 tg1096 F1156 (F pg (3 : Int)) ((0) + 1) := by rw [eF1156]; exact CR_p c1154
                have tb1161 := tz_b (F1097 (sc) (15 : Int))
                refine jx_ld (pc_q := 120) (l_q := L) (st_q := [rv (me)]) rfl (jl_rvn gL_0) ?_
                refine cx_gr (pc_q := 123) (c := 8) (q := 1) (v := sc) rfl rfl (by decide) (by decide) rfl rfl ho1147.1 ho1147.2 (((show F1156 (me) (1 : Int) = F1097 (me) (1 : Int) from by rw [eF1156]; exact uF_j (by decide)).trans ((show F1097 (me) (1 : Int) = Fx (me) (1 : Int) from hM1101 _ _ ho2.1 (own_z ho2.1) (by rw [ho2.2]; rfl)).trans (show Fx (me) (1 : Int) = F (me) (1 : Int) from hMx _ _ o_me (own_z o_me) (by rw [t_me]; rfl)))).trans e_sc) ?_
                refine cx_gi (pc_q := 126) (c := 10) (q := 12) (v := F1097 (sc) (12 : Int)) rfl rfl (by decide) (by decide) (Or.inr rfl) rfl ho1149.1 ho1149.2 (show F1156 (sc) (12 : Int) = F1097 (sc) (12 : Int) from by rw [eF1156]; exact uF_j (by decide)) ?_
                have b1162 : (0 : Int) ≤ F1097 (sc) (12 : Int) ∧ F1097 (sc) (12 : Int) ≤ 1 := by have z := HC_i (c := 10) (q := 12) hC1157 ho1149.1 ho1149.2 (by decide) rfl; rw [show F1156 (sc) ((12 : Nat) : Int) = F1097 (sc) (12 : Int) from (show F1156 (sc) (12 : Int) = F1097 (sc) (12 : Int) from by rw [eF1156]; exact uF_j (by decide))] at z; exact z
                refine jx_if_ne (pc_q := 129) (tg := 133) rfl rfl rfl (by omega) (by omega) (fun h1163 => ?_) (fun h1163 => ?_)
                · have _q := h1163
                  refine jx_go (tg := 142) rfl rfl ?_
                  have tb1164 := tz_b (F1097 (sc) (15 : Int))
                  refine jx_rt (v := none) rfl rfl rfl rfl rfl rfl ?_
                  have q1165 : F1156 (sc) (7 : Int) = F (sc) (7 : Int) := ((show F1156 (sc) (7 : Int) = F1097 (sc) (7 : Int) from by rw [eF1156]; exact uF_j (by decide)).trans ((show F1097 (sc) (7 : Int) = Fx (sc) (7 : Int) from hM1101 _ _ ho3.1 (own_z ho3.1) (by rw [ho3.2]; rfl)).trans (show Fx (sc) (7 : Int) = F (sc) (7 : Int) from hMx _ _ o_sc (own_z o_sc) (by rw [t_sc]; rfl))))
                  have q1166 : F1156 (pg) (9 : Int) = F1097 (pg) (9 : Int) := (show F1156 (pg) (9 : Int) = F1097 (pg) (9 : Int) from by rw [eF1156]; exact uF_j (by decide))
                  have q1167 : F1156 (pg) (3 : Int) = F (pg) (3 : Int) := ((show F1156 (pg) (3 : Int) = F1097 (pg) (3 : Int) from by rw [eF1156]; exact uF_j (by decide)).trans ((show F1097 (pg) (3 : Int) = Fx (pg) (3 : Int) from hM1101 _ _ ho4.1 (own_z ho4.1) (by rw [ho4.2]; rfl)).trans (show Fx (pg) (3 : Int) = F (pg) (3 : Int) from hMx _ _ o_pg (own_z o_pg) (by rw [t_pg]; rfl))))
                  have q1168 : F1156 (pg) (0 : Int) = F1097 (pg) (0 : Int) := (show F1156 (pg) (0 : Int) = F1097 (pg) (0 : Int) from by rw [eF1156]; exact uF_a (fun w => by have q1 := ho1150.2; have q2 := ho1148.2; rw [w, q2] at q1; exact absurd q1 (by decide)))
                  have q1169 : F1156 (pg) (9 : Int) = F1097 (pg) (9 : Int) := q1166
                  exact ⟨m1096, tg1096, ln1096, F1156, rfl, rfl, hX1152, hC1157, hM1158, by omega, by omega, by omega, (Or.inr (by have z := c1160.2.2; omega)), c1159, c1153, trivial⟩
                · have _q := h1163
                  refine jx_ld (pc_q := 130) (l_q := L) (st_q := [rv (me)]) rfl (jl_rvn gL_0) ?_
                  have q1170 : F1156 (sc) (8 : Int) = F1097 (sc) (8 : Int) := (show F1156 (sc) (8 : Int) = F1097 (sc) (8 : Int) from by rw [eF1156]; exact uF_j (by decide))
                  have q1171 : F1156 (sc) (7 : Int) = F (sc) (7 : Int) := ((show F1156 (sc) (7 : Int) = F1097 (sc) (7 : Int) from by rw [eF1156]; exact uF_j (by decide)).trans ((show F1097 (sc) (7 : Int) = Fx (sc) (7 : Int) from hM1101 _ _ ho3.1 (own_z ho3.1) (by rw [ho3.2]; rfl)).trans (show Fx (sc) (7 : Int) = F (sc) (7 : Int) from hMx _ _ o_sc (own_z o_sc) (by rw [t_sc]; rfl))))
                  refine cx_vi (c := 8) (a := me) (st := []) (as := []) rfl rfl rfl ho1147.1 ho1147.2 (by decide) rfl ⟨rfl, rfl, (Nat.le_of_ble_eq_true rfl)⟩ rfl (k_LParser_form (dd := d) (R := R) (m := m1096) (tg := tg1096) (ln := ln1096) (F := F1156) (me := me) (hd := by omega) (hC := hC1157) (o_me := ho1147.1) (t_me := ho1147.2) (sc := sc) (pg := pg) (o_sc := ho1149.1) (t_sc := ho1149.2) (e_sc := (((show F1156 (me) (1 : Int) = F1097 (me) (1 : Int) from by rw [eF1156]; exact uF_j (by decide)).trans ((show F1097 (me) (1 : Int) = Fx (me) (1 : Int) from hM1101 _ _ ho2.1 (own_z ho2.1) (by rw [ho2.2]; rfl)).trans (show Fx (me) (1 : Int) = F (me) (1 : Int) from hMx _ _ o_me (own_z o_me) (by rw [t_me]; rfl)))).trans e_sc)) (o_pg := ho1150.1) (t_pg := ho1150.2) (e_pg := (((show F1156 (me) (0 : Int) = F1097 (me) (0 : Int) from by rw [eF1156]; exact uF_a (fun w => by have q1 := ho1147.2; have q2 := ho1148.2; rw [w, q2] at q1; exact absurd q1 (by decide))).trans ((show F1097 (me) (0 : Int) = Fx (me) (0 : Int) from hM1101 _ _ ho2.1 (own_z ho2.1) (by rw [ho2.2]; rfl)).trans (show Fx (me) (0 : Int) = F (me) (0 : Int) from hMx _ _ o_me (own_z o_me) (by rw [t_me]; rfl)))).trans e_pg)) (p_0 := by omega) (c_NP := c1159)) (fun o V_q hq => ?_)
                  obtain ⟨m1172, tg1172, ln1172, F1173, rfl, rfl, hx1174, hC1175, hM1176, p1177, c1178, c1179, -⟩ | ⟨m1180, tg1180, ln1180, F1180, x1180, rfl, rfl, hx1180, hC1180, hM1180, ho1180, ht1180, p1181, p1182, p1183, p1184, c1185, c1186, -⟩ := hq
                  rotate_left
                  ·
                    have c1187 : NM m m1180 tg1180 := NM_t c1153 hx1180 c1186
                    have lm1188 := hx1180.1
                    refine Or.inr (Or.inr (Or.inl ⟨_, _, 136, rfl, cx_exc (c := 15) ho1180 ht1180 (by decide), rfl, ?_⟩))
                    rw [← rv_x ho1180]
                    have hM1189 := Fq_t (ln := ln) (ln1 := ln1096) hM1158 hX1152 hM1180 (by decide) (Or.inl rfl)
                    have lm1190 := hx1180.1
                    have ho1191 : own m1180 (me) ∧ tg1180 (me) = 9 := Ex_o hx1180 ⟨ho1147.1, ho1147.2⟩
                    have ho1192 : own m1180 (sc) ∧ tg1180 (sc) = 11 := Ex_o hx1180 ⟨ho1149.1, ho1149.2⟩
                    have ho1193 : own m1180 (pg) ∧ tg1180 (pg) = 10 := Ex_o hx1180 ⟨ho1150.1, ho1150.2⟩
                    have hX1194 := Ex_t hX1152 hx1180
                    refine jx_ld (pc_q := 137) (l_q := jSto1 L 1 (rv (((x1180 : Nat) : Int)))) (st_q := []) rfl (js_rvn (by decide)) ?_
                    obtain ⟨L1195, eL1195⟩ : ∃ q : jL, q = jSto1 L 1 (rv (((x1180 : Nat) : Int))) := ⟨_, rfl⟩
                    rw [← eL1195]
                    have g1196 : jGet L1195 0 = some (rv (me)) := eL1195 ▸ jg_nr (by decide) gL_0
                    have g1197 : jGet L1195 1 = some (rv (((x1180 : Nat) : Int))) := eL1195 ▸ jg_eq
                    clear eL1195
                    refine jx_ld (pc_q := 138) (l_q := L1195) (st_q := [rv (me)]) rfl (jl_rvn g1196) ?_
                    refine jx_ar (pc_q := 139) (st_q := .null :: [rv (me)]) rfl rfl rfl rfl ?_
                    rw [← rv_0]
                    refine cx_po (pc_q := 142) (c := 8) (q := 2) (qi := (2 : Int)) (z := 0) rfl rfl (by decide) (by decide) rfl rfl rfl (by decide) rfl ho1191.1 ho1191.2 rfl ?_
                    obtain ⟨F1198, eF1198⟩ : ∃ q, q = uF F1180 (me) (2 : Int) (0) := ⟨_, rfl⟩
                    rw [← eF1198]
                    have hC1199 : HC 0 m1180 tg1180 ln1180 F1198 := by rw [eF1198]; exact HC_fr (c := 8) (q := 2) (by decide) hC1180 ho1191.2 (by decide) rfl (Or.inl rfl) ⟨fun w => absurd w (by decide), fun w => absurd w (by decide)⟩
                    have hM1200 : Fq 0 [(7, 15), (9, 2), (9, 3), (10, 0), (10, 1), (10, 2), (10, 5), (10, 7), (10, 8), (10, 9), (11, 8), (11, 12), (11, 13), (11, 14), (11, 15), (11, 16), (11, 17), (11, 18), (24, -5), (25, -5), (26, -5)] m tg F F1198 := by rw [eF1198]; exact Fq_p hM1189 ho1191.2 (fun w => (hX1194.2 _ w).1) rfl
                    have c1201 : NP m1180 tg1180 F1198 := by rw [eF1198]; exact NP_u hC1180 c1185 ho1191.2 (by omega)
                    have tb1202 := tz_b (F1097 (sc) (15 : Int))
                    refine jx_rt (v := none) rfl rfl rfl rfl rfl rfl ?_
                    have q1203 : F1198 (sc) (7 : Int) = F (sc) (7 : Int) := ((show F1198 (sc) (7 : Int) = F1180 (sc) (7 : Int) from by rw [eF1198]; exact uF_j (by decide)).trans ((show F1180 (sc) (7 : Int) = F1156 (sc) (7 : Int) from hM1180 _ _ ho1149.1 (own_z ho1149.1) (by rw [ho1149.2]; rfl)).trans q1171))
                    have q1204 : F1198 (pg) (9 : Int) = F1097 (pg) (9 : Int) := ((show F1198 (pg) (9 : Int) = F1180 (pg) (9 : Int) from by rw [eF1198]; exact uF_j (by decide)).trans ((show F1180 (pg) (9 : Int) = F1156 (pg) (9 : Int) from hM1180 _ _ ho1150.1 (own_z ho1150.1) (by rw [ho1150.2]; rfl)).trans (show F1156 (pg) (9 : Int) = F1097 (pg) (9 : Int) from by rw [eF1156]; exact uF_j (by decide))))
                    have q1205 : F1198 (pg) (3 : Int) = F (pg) (3 : Int) := ((show F1198 (pg) (3 : Int) = F1180 (pg) (3 : Int) from by rw [eF1198]; exact uF_j (by decide)).trans ((show F1180 (pg) (3 : Int) = F1156 (pg) (3 : Int) from hM1180 _ _ ho1150.1 (own_z ho1150.1) (by rw [ho1150.2]; rfl)).trans ((show F1156 (pg) (3 : Int) = F1097 (pg) (3 : Int) from by rw [eF1156]; exact uF_j (by decide)).trans ((show F1097 (pg) (3 : Int) = Fx (pg) (3 : Int) from hM1101 _ _ ho4.1 (own_z ho4.1) (by rw [ho4.2]; rfl)).trans (show Fx (pg) (3 : Int) = F (pg) (3 : Int) from hMx _ _ o_pg (own_z o_pg) (by rw [t_pg]; rfl))))))
                    have q1206 : F1198 (pg) (0 : Int) = F1180 (pg) (0 : Int) := (show F1198 (pg) (0 : Int) = F1180 (pg) (0 : Int) from by rw [eF1198]; exact uF_j (by decide))
                    have q1207 : F1198 (pg) (9 : Int) = F1097 (pg) (9 : Int) := q1204
                    exact ⟨m1180, tg1180, ln1180, F1198, rfl, rfl, hX1194, hC1199, hM1200, by omega, by omega, by omega, (Or.inl (by omega)), c1201, c1187, trivial⟩
                  exact p1177.elim
              · have _q := h1091
                have t1208 : tz (Fx (sc) (15 : Int)) = 1 := tz_p (by omega)
                refine jx_ld (pc_q := 99) (l_q := L) (st_q := [rv (me)]) rfl (jl_rvn gL_0) ?_
                have q1209 := tz_b (Fx (sc) (15 : Int))
                have q1210 : Fx (sc) (7 : Int) = F (sc) (7 : Int) := (show Fx (sc) (7 : Int) = F (sc) (7 : Int) from hMx _ _ o_sc (own_z o_sc) (by rw [t_sc]; rfl))
                have q1211 := lz_b (Fx (sc) (14 : Int))
                refine cx_vi (c := 8) (a := me) (st := []) (as := []) rfl rfl rfl ho2.1 ho2.2 (by decide) rfl ⟨rfl, rfl, (Nat.le_of_ble_eq_true rfl)⟩ rfl (k_LParser_readPlaced (dd := d) (R := R) (m := mx) (tg := tgx) (ln := lnx) (F := Fx) (me := me) (hd := by omega) (hC := hCx) (o_me := ho2.1) (t_me := ho2.2) (sc := sc) (pg := pg) (o_sc := ho3.1) (t_sc := ho3.2) (e_sc := ((show Fx (me) (1 : Int) = F (me) (1 : Int) from hMx _ _ o_me (own_z o_me) (by rw [t_me]; rfl)).trans e_sc)) (o_pg := ho4.1) (t_pg := ho4.2) (e_pg := ((show Fx (me) (0 : Int) = F (me) (0 : Int) from hMx _ _ o_me (own_z o_me) (by rw [t_me]; rfl)).trans e_pg)) (p_0 := by omega) (p_1 := by omega) (c_NP := cx_NP) (cr := 0) (c_CR := CR_e iv_9 (show Fx (pg) (3 : Int) = F (pg) (3 : Int) from hMx _ _ o_pg (own_z o_pg) (by rw [t_pg]; rfl)))) (fun o V_q hq => ?_)
                obtain ⟨m1212, tg1212, ln1212, F1213, rfl, rfl, hx1214, hC1215, hM1216, p1217, p1218, p1219, p1220, p1221, p1222, c1223, c1224, c1225, -⟩ | ⟨m1226, tg1226, ln1226, F1226, x1226, rfl, rfl, hx1226, hC1226, hM1226, ho1226, ht1226, p1227, p1228, p1229, p1230, c1231, c1232, -⟩ := hq
                rotate_left
                ·
                  have c1233 : NM m m1226 tg1226 := NM_t cx_NM hx1226 c1232
                  have lm1234 := hx1226.1
                  refine Or.inr (Or.inr (Or.inl ⟨_, _, 136, rfl, cx_exc (c := 15) ho1226 ht1226 (by decide), rfl, ?_⟩))
                  rw [← rv_x ho1226]
                  have hM1235 := Fq_t (ln := ln) (ln1 := lnx) hMx hXx hM1226 (by decide) (Or.inl rfl)
                  have lm1236 := hx1226.1
                  have ho1237 : own m1226 (me) ∧ tg1226 (me) = 9 := Ex_o hx1226 ⟨ho2.1, ho2.2⟩
                  have ho1238 : own m1226 (sc) ∧ tg1226 (sc) = 11 := Ex_o hx1226 ⟨ho3.1, ho3.2⟩
                  have ho1239 : own m1226 (pg) ∧ tg1226 (pg) = 10 := Ex_o hx1226 ⟨ho4.1, ho4.2⟩
                  have hX1240 := Ex_t hXx hx1226
                  refine jx_ld (pc_q := 137) (l_q := jSto1 L 1 (rv (((x1226 : Nat) : Int)))) (st_q := []) rfl (js_rvn (by decide)) ?_
                  obtain ⟨L1241, eL1241⟩ : ∃ q : jL, q = jSto1 L 1 (rv (((x1226 : Nat) : Int))) := ⟨_, rfl⟩
                  rw [← eL1241]
                  have g1242 : jGet L1241 0 = some (rv (me)) := eL1241 ▸ jg_nr (by decide) gL_0
                  have g1243 : jGet L1241 1 = some (rv (((x1226 : Nat) : Int))) := eL1241 ▸ jg_eq
                  clear eL1241
                  refine jx_ld (pc_q := 138) (l_q := L1241) (st_q := [rv (me)]) rfl (jl_rvn g1242) ?_
                  refine jx_ar (pc_q := 139) (st_q := .null :: [rv (me)]) rfl rfl rfl rfl ?_
                  rw [← rv_0]
                  refine cx_po (pc_q := 142) (c := 8) (q := 2) (qi := (2 : Int)) (z := 0) rfl rfl (by decide) (by decide) rfl rfl rfl (by decide) rfl ho1237.1 ho1237.2 rfl ?_
                  obtain ⟨F1244, eF1244⟩ : ∃ q, q = uF F1226 (me) (2 : Int) (0) := ⟨_, rfl⟩
                  rw [← eF1244]
                  have hC1245 : HC 0 m1226 tg1226 ln1226 F1244 := by rw [eF1244]; exact HC_fr (c := 8) (q := 2) (by decide) hC1226 ho1237.2 (by decide) rfl (Or.inl rfl) ⟨fun w => absurd w (by decide), fun w => absurd w (by decide)⟩
                  have hM1246 : Fq 0 [(7, 15), (9, 2), (9, 3), (10, 0), (10, 1), (10, 2), (10, 5), (10, 7), (10, 8), (10, 9), (11, 8), (11, 12), (11, 13), (11, 14), (11, 15), (11, 16), (11, 17), (11, 18), (24, -5), (25, -5), (26, -5)] m tg F F1244 := by rw [eF1244]; exact Fq_p hM1235 ho1237.2 (fun w => (hX1240.2 _ w).1) rfl
                  have c1247 : NP m1226 tg1226 F1244 := by rw [eF1244]; exact NP_u hC1226 c1231 ho1237.2 (by omega)
                  have tb1248 := tz_b (F1226 (sc) (15 : Int))
                  refine jx_rt (v := none) rfl rfl rfl rfl rfl rfl ?_
                  have q1249 : F1244 (sc) (7 : Int) = F (sc) (7 : Int) := ((show F1244 (sc) (7 : Int) = F1226 (sc) (7 : Int) from by rw [eF1244]; exact uF_j (by decide)).trans ((show F1226 (sc) (7 : Int) = Fx (sc) (7 : Int) from hM1226 _ _ ho3.1 (own_z ho3.1) (by rw [ho3.2]; rfl)).trans (show Fx (sc) (7 : Int) = F (sc) (7 : Int) from hMx _ _ o_sc (own_z o_sc) (by rw [t_sc]; rfl))))
                  have q1250 : F1244 (pg) (9 : Int) = F1226 (pg) (9 : Int) := (show F1244 (pg) (9 : Int) = F1226 (pg) (9 : Int) from by rw [eF1244]; exact uF_j (by decide))
                  have q1251 : F1244 (pg) (3 : Int) = F (pg) (3 : Int) := ((show F1244 (pg) (3 : Int) = F1226 (pg) (3 : Int) from by rw [eF1244]; exact uF_j (by decide)).trans ((show F1226 (pg) (3 : Int) = Fx (pg) (3 : Int) from hM1226 _ _ ho4.1 (own_z ho4.1) (by rw [ho4.2]; rfl)).trans (show Fx (pg) (3 : Int) = F (pg) (3 : Int) from hMx _ _ o_pg (own_z o_pg) (by rw [t_pg]; rfl))))
                  have q1252 : F1244 (pg) (0 : Int) = F1226 (pg) (0 : Int) := (show F1244 (pg) (0 : Int) = F1226 (pg) (0 : Int) from by rw [eF1244]; exact uF_j (by decide))
                  have q1253 : F1244 (pg) (9 : Int) = F1226 (pg) (9 : Int) := q1250
                  exact ⟨m1226, tg1226, ln1226, F1244, rfl, rfl, hX1240, hC1245, hM1246, by omega, by omega, by omega, (Or.inl (by omega)), c1247, c1233, trivial⟩
                have hM1254 : Fq 0 [(7, 15), (9, 2), (9, 3), (10, 0), (10, 1), (10, 2), (10, 5), (10, 7), (10, 8), (10, 9), (11, 8), (11, 12), (11, 13), (11, 14), (11, 15), (11, 16), (11, 17), (11, 18), (24, -5), (25, -5), (26, -5)] m tg F F1213 := Fq_t (ln := ln) (ln1 := lnx) hMx hXx hM1216 (by decide) (Or.inl rfl)
                have lm1255 := hx1214.1
                have ho1256 : own m1212 (me) ∧ tg1212 (me) = 9 := Ex_o hx1214 ⟨ho2.1, ho2.2⟩
                have ho1257 : own m1212 (sc) ∧ tg1212 (sc) = 11 := Ex_o hx1214 ⟨ho3.1, ho3.2⟩
                have ho1258 : own m1212 (pg) ∧ tg1212 (pg) = 10 := Ex_o hx1214 ⟨ho4.1, ho4.2⟩
                have hX1259 := Ex_t hXx hx1214
                have c1260 : NM m m1212 tg1212 := NM_t cx_NM hx1214 c1224
                have c1261 : CR m1212 tg1212 F1213 (F pg (3 : Int)) ((0) + (F1213 sc (8 : Int) - Fx sc (8 : Int) - 3) / 4) := CR_e2 c1225 (show Fx (pg) (3 : Int) = F (pg) (3 : Int) from hMx _ _ o_pg (own_z o_pg) (by rw [t_pg]; rfl))
                refine Or.inl ⟨rfl, ?_⟩
                refine jx_go (tg := 119) rfl rfl ?_
                have tb1262 := tz_b (F1213 (sc) (15 : Int))
                refine jx_ld (pc_q := 120) (l_q := L) (st_q := [rv (me)]) rfl (jl_rvn gL_0) ?_
                refine cx_gr (pc_q := 123) (c := 8) (q := 1) (v := sc) rfl rfl (by decide) (by decide) rfl rfl ho1256.1 ho1256.2 (((show F1213 (me) (1 : Int) = Fx (me) (1 : Int) from hM1216 _ _ ho2.1 (own_z ho2.1) (by rw [ho2.2]; rfl)).trans (show Fx (me) (1 : Int) = F (me) (1 : Int) from hMx _ _ o_me (own_z o_me) (by rw [t_me]; rfl))).trans e_sc) ?_
                refine cx_gi (pc_q := 126) (c := 10) (q := 12) (v := F1213 (sc) (12 : Int)) rfl rfl (by decide) (by decide) (Or.inr rfl) rfl ho1257.1 ho1257.2 rfl ?_
                have b1263 : (0 : Int) ≤ F1213 (sc) (12 : Int) ∧ F1213 (sc) (12 : Int) ≤ 1 := by have z := HC_i (c := 10) (q := 12) hC1215 ho1257.1 ho1257.2 (by decide) rfl; rw [show F1213 (sc) ((12 : Nat) : Int) = F1213 (sc) (12 : Int) from rfl] at z; exact z
                refine jx_if_ne (pc_q := 129) (tg := 133) rfl rfl rfl (by omega) (by omega) (fun h1264 => ?_) (fun h1264 => ?_)
                · have _q := h1264
                  refine jx_go (tg := 142) rfl rfl ?_
                  have tb1265 := tz_b (F1213 (sc) (15 : Int))
                  refine jx_rt (v := none) rfl rfl rfl rfl rfl rfl ?_
                  have q1266 : F1213 (sc) (7 : Int) = F (sc) (7 : Int) := ((show F1213 (sc) (7 : Int) = Fx (sc) (7 : Int) from hM1216 _ _ ho3.1 (own_z ho3.1) (by rw [ho3.2]; rfl)).trans (show Fx (sc) (7 : Int) = F (sc) (7 : Int) from hMx _ _ o_sc (own_z o_sc) (by rw [t_sc]; rfl)))
                  have q1267 : F1213 (pg) (3 : Int) = F (pg) (3 : Int) := ((show F1213 (pg) (3 : Int) = Fx (pg) (3 : Int) from hM1216 _ _ ho4.1 (own_z ho4.1) (by rw [ho4.2]; rfl)).trans (show Fx (pg) (3 : Int) = F (pg) (3 : Int) from hMx _ _ o_pg (own_z o_pg) (by rw [t_pg]; rfl)))
                  exact ⟨m1212, tg1212, ln1212, F1213, rfl, rfl, hX1259, hC1215, hM1254, by omega, by omega, by omega, (Or.inr (by have z := c1261.2.2; omega)), c1223, c1260, trivial⟩
                · have _q := h1264
                  refine jx_ld (pc_q := 130) (l_q := L) (st_q := [rv (me)]) rfl (jl_rvn gL_0) ?_
                  have q1268 : F1213 (sc) (7 : Int) = F (sc) (7 : Int) := ((show F1213 (sc) (7 : Int) = Fx (sc) (7 : Int) from hM1216 _ _ ho3.1 (own_z ho3.1) (by rw [ho3.2]; rfl)).trans (show Fx (sc) (7 : Int) = F (sc) (7 : Int) from hMx _ _ o_sc (own_z o_sc) (by rw [t_sc]; rfl)))
                  refine cx_vi (c := 8) (a := me) (st := []) (as := []) rfl rfl rfl ho1256.1 ho1256.2 (by decide) rfl ⟨rfl, rfl, (Nat.le_of_ble_eq_true rfl)⟩ rfl (k_LParser_form (dd := d) (R := R) (m := m1212) (tg := tg1212) (ln := ln1212) (F := F1213) (me := me) (hd := by omega) (hC := hC1215) (o_me := ho1256.1) (t_me := ho1256.2) (sc := sc) (pg := pg) (o_sc := ho1257.1) (t_sc := ho1257.2) (e_sc := (((show F1213 (me) (1 : Int) = Fx (me) (1 : Int) from hM1216 _ _ ho2.1 (own_z ho2.1) (by rw [ho2.2]; rfl)).trans (show Fx (me) (1 : Int) = F (me) (1 : Int) from hMx _ _ o_me (own_z o_me) (by rw [t_me]; rfl))).trans e_sc)) (o_pg := ho1258.1) (t_pg := ho1258.2) (e_pg := (((show F1213 (me) (0 : Int) = Fx (me) (0 : Int) from hM1216 _ _ ho2.1 (own_z ho2.1) (by rw [ho2.2]; rfl)).trans (show Fx (me) (0 : Int) = F (me) (0 : Int) from hMx _ _ o_me (own_z o_me) (by rw [t_me]; rfl))).trans e_pg)) (p_0 := by omega) (c_NP := c1223)) (fun o V_q hq => ?_)
                  obtain ⟨m1269, tg1269, ln1269, F1270, rfl, rfl, hx1271, hC1272, hM1273, p1274, c1275, c1276, -⟩ | ⟨m1277, tg1277, ln1277, F1277, x1277, rfl, rfl, hx1277, hC1277, hM1277, ho1277, ht1277, p1278, p1279, p1280, p1281, c1282, c1283, -⟩ := hq
                  rotate_left
                  ·
                    have c1284 : NM m m1277 tg1277 := NM_t c1260 hx1277 c1283
                    have lm1285 := hx1277.1
                    refine Or.inr (Or.inr (Or.inl ⟨_, _, 136, rfl, cx_exc (c := 15) ho1277 ht1277 (by decide), rfl, ?_⟩))
                    rw [← rv_x ho1277]
                    have hM1286 := Fq_t (ln := ln) (ln1 := ln1212) hM1254 hX1259 hM1277 (by decide) (Or.inl rfl)
                    have lm1287 := hx1277.1
                    have ho1288 : own m1277 (me) ∧ tg1277 (me) = 9 := Ex_o hx1277 ⟨ho1256.1, ho1256.2⟩
                    have ho1289 : own m1277 (sc) ∧ tg1277 (sc) = 11 := Ex_o hx1277 ⟨ho1257.1, ho1257.2⟩
                    have ho1290 : own m1277 (pg) ∧ tg1277 (pg) = 10 := Ex_o hx1277 ⟨ho1258.1, ho1258.2⟩
                    have hX1291 := Ex_t hX1259 hx1277
                    refine jx_ld (pc_q := 137) (l_q := jSto1 L 1 (rv (((x1277 : Nat) : Int)))) (st_q := []) rfl (js_rvn (by decide)) ?_
                    obtain ⟨L1292, eL1292⟩ : ∃ q : jL, q = jSto1 L 1 (rv (((x1277 : Nat) : Int))) := ⟨_, rfl⟩
                    rw [← eL1292]
                    have g1293 : jGet L1292 0 = some (rv (me)) := eL1292 ▸ jg_nr (by decide) gL_0
                    have g1294 : jGet L1292 1 = some (rv (((x1277 : Nat) : Int))) := eL1292 ▸ jg_eq
                    clear eL1292
                    refine jx_ld (pc_q := 138) (l_q := L1292) (st_q := [rv (me)]) rfl (jl_rvn g1293) ?_
                    refine jx_ar (pc_q := 139) (st_q := .null :: [rv (me)]) rfl rfl rfl rfl ?_
                    rw [← rv_0]
                    refine cx_po (pc_q := 142) (c := 8) (q := 2) (qi := (2 : Int)) (z := 0) rfl rfl (by decide) (by decide) rfl rfl rfl (by decide) rfl ho1288.1 ho1288.2 rfl ?_
                    obtain ⟨F1295, eF1295⟩ : ∃ q, q = uF F1277 (me) (2 : Int) (0) := ⟨_, rfl⟩
                    rw [← eF1295]
                    have hC1296 : HC 0 m1277 tg1277 ln1277 F1295 := by rw [eF1295]; exact HC_fr (c := 8) (q := 2) (by decide) hC1277 ho1288.2 (by decide) rfl (Or.inl rfl) ⟨fun w => absurd w (by decide), fun w => absurd w (by decide)⟩
                    have hM1297 : Fq 0 [(7, 15), (9, 2), (9, 3), (10, 0), (10, 1), (10, 2), (10, 5), (10, 7), (10, 8), (10, 9), (11, 8), (11, 12), (11, 13), (11, 14), (11, 15), (11, 16), (11, 17), (11, 18), (24, -5), (25, -5), (26, -5)] m tg F F1295 := by rw [eF1295]; exact Fq_p hM1286 ho1288.2 (fun w => (hX1291.2 _ w).1) rfl
                    have c1298 : NP m1277 tg1277 F1295 := by rw [eF1295]; exact NP_u hC1277 c1282 ho1288.2 (by omega)
                    have tb1299 := tz_b (F1213 (sc) (15 : Int))
                    refine jx_rt (v := none) rfl rfl rfl rfl rfl rfl ?_
                    have q1300 : F1295 (sc) (7 : Int) = F (sc) (7 : Int) := ((show F1295 (sc) (7 : Int) = F1277 (sc) (7 : Int) from by rw [eF1295]; exact uF_j (by decide)).trans ((show F1277 (sc) (7 : Int) = F1213 (sc) (7 : Int) from hM1277 _ _ ho1257.1 (own_z ho1257.1) (by rw [ho1257.2]; rfl)).trans q1268))
                    have q1301 : F1295 (pg) (9 : Int) = F1213 (pg) (9 : Int) := ((show F1295 (pg) (9 : Int) = F1277 (pg) (9 : Int) from by rw [eF1295]; exact uF_j (by decide)).trans (show F1277 (pg) (9 : Int) = F1213 (pg) (9 : Int) from hM1277 _ _ ho1258.1 (own_z ho1258.1) (by rw [ho1258.2]; rfl)))
                    have q1302 : F1295 (pg) (3 : Int) = F (pg) (3 : Int) := ((show F1295 (pg) (3 : Int) = F1277 (pg) (3 : Int) from by rw [eF1295]; exact uF_j (by decide)).trans ((show F1277 (pg) (3 : Int) = F1213 (pg) (3 : Int) from hM1277 _ _ ho1258.1 (own_z ho1258.1) (by rw [ho1258.2]; rfl)).trans ((show F1213 (pg) (3 : Int) = Fx (pg) (3 : Int) from hM1216 _ _ ho4.1 (own_z ho4.1) (by rw [ho4.2]; rfl)).trans (show Fx (pg) (3 : Int) = F (pg) (3 : Int) from hMx _ _ o_pg (own_z o_pg) (by rw [t_pg]; rfl)))))
                    have q1303 : F1295 (pg) (0 : Int) = F1277 (pg) (0 : Int) := (show F1295 (pg) (0 : Int) = F1277 (pg) (0 : Int) from by rw [eF1295]; exact uF_j (by decide))
                    have q1304 : F1295 (pg) (9 : Int) = F1213 (pg) (9 : Int) := q1301
                    exact ⟨m1277, tg1277, ln1277, F1295, rfl, rfl, hX1291, hC1296, hM1297, by omega, by omega, by omega, (Or.inl (by omega)), c1298, c1284, trivial⟩
                  exact p1274.elim
        · have _q := h874
          have t1305 : tz (Fx (sc) (15 : Int)) = 1 := tz_p (by omega)
          refine jx_ld (pc_q := 55) (l_q := L) (st_q := [rv (me)]) rfl (jl_rvn gL_0) ?_
          have q1306 := tz_b (Fx (sc) (15 : Int))
          have q1307 : Fx (sc) (7 : Int) = F (sc) (7 : Int) := (show Fx (sc) (7 : Int) = F (sc) (7 : Int) from hMx _ _ o_sc (own_z o_sc) (by rw [t_sc]; rfl))
          have q1308 := lz_b (Fx (sc) (14 : Int))
          refine cx_vi (c := 8) (a := me) (st := []) (as := []) rfl rfl rfl ho2.1 ho2.2 (by decide) rfl ⟨rfl, rfl, (Nat.le_of_ble_eq_true rfl)⟩ rfl (k_LParser_readProc (dd := d) (R := R) (m := mx) (tg := tgx) (ln := lnx) (F := Fx) (me := me) (hd := by omega) (hC := hCx) (o_me := ho2.1) (t_me := ho2.2) (sc := sc) (pg := pg) (o_sc := ho3.1) (t_sc := ho3.2) (e_sc := ((show Fx (me) (1 : Int) = F (me) (1 : Int) from hMx _ _ o_me (own_z o_me) (by rw [t_me]; rfl)).trans e_sc)) (o_pg := ho4.1) (t_pg := ho4.2) (e_pg := ((show Fx (me) (0 : Int) = F (me) (0 : Int) from hMx _ _ o_me (own_z o_me) (by rw [t_me]; rfl)).trans e_pg)) (p_0 := by omega) (p_1 := by omega) (p_2 := by omega) (p_3 := by omega) (c_NP := cx_NP)) (fun o V_q hq => ?_)
          obtain ⟨m1309, tg1309, ln1309, F1310, rfl, rfl, hx1311, hC1312, hM1313, p1314, p1315, p1316, p1317, p1318, p1319, c1320, c1321, -⟩ | ⟨m1322, tg1322, ln1322, F1322, x1322, rfl, rfl, hx1322, hC1322, hM1322, ho1322, ht1322, p1323, p1324, p1325, p1326, c1327, c1328, -⟩ := hq
          rotate_left
          ·
            have c1329 : NM m m1322 tg1322 := NM_t cx_NM hx1322 c1328
            have lm1330 := hx1322.1
            refine Or.inr (Or.inr (Or.inl ⟨_, _, 136, rfl, cx_exc (c := 15) ho1322 ht1322 (by decide), rfl, ?_⟩))
            rw [← rv_x ho1322]
            have hM1331 := Fq_t (ln := ln) (ln1 := lnx) hMx hXx hM1322 (by decide) (Or.inl rfl)
            have lm1332 := hx1322.1
            have ho1333 : own m1322 (me) ∧ tg1322 (me) = 9 := Ex_o hx1322 ⟨ho2.1, ho2.2⟩
            have ho1334 : own m1322 (sc) ∧ tg1322 (sc) = 11 := Ex_o hx1322 ⟨ho3.1, ho3.2⟩
            have ho1335 : own m1322 (pg) ∧ tg1322 (pg) = 10 := Ex_o hx1322 ⟨ho4.1, ho4.2⟩
            have hX1336 := Ex_t hXx hx1322
            refine jx_ld (pc_q := 137) (l_q := jSto1 L 1 (rv (((x1322 : Nat) : Int)))) (st_q := []) rfl (js_rvn (by decide)) ?_
            obtain ⟨L1337, eL1337⟩ : ∃ q : jL, q = jSto1 L 1 (rv (((x1322 : Nat) : Int))) := ⟨_, rfl⟩
            rw [← eL1337]
            have g1338 : jGet L1337 0 = some (rv (me)) := eL1337 ▸ jg_nr (by decide) gL_0
            have g1339 : jGet L1337 1 = some (rv (((x1322 : Nat) : Int))) := eL1337 ▸ jg_eq
            clear eL1337
            refine jx_ld (pc_q := 138) (l_q := L1337) (st_q := [rv (me)]) rfl (jl_rvn g1338) ?_
            refine jx_ar (pc_q := 139) (st_q := .null :: [rv (me)]) rfl rfl rfl rfl ?_
            rw [← rv_0]
            refine cx_po (pc_q := 142) (c := 8) (q := 2) (qi := (2 : Int)) (z := 0) rfl rfl (by decide) (by decide) rfl rfl rfl (by decide) rfl ho1333.1 ho1333.2 rfl ?_
            obtain ⟨F1340, eF1340⟩ : ∃ q, q = uF F1322 (me) (2 : Int) (0) := ⟨_, rfl⟩
            rw [← eF1340]
            have hC1341 : HC 0 m1322 tg1322 ln1322 F1340 := by rw [eF1340]; exact HC_fr (c := 8) (q := 2) (by decide) hC1322 ho1333.2 (by decide) rfl (Or.inl rfl) ⟨fun w => absurd w (by decide), fun w => absurd w (by decide)⟩
            have hM1342 : Fq 0 [(7, 15), (9, 2), (9, 3), (10, 0), (10, 1), (10, 2), (10, 5), (10, 7), (10, 8), (10, 9), (11, 8), (11, 12), (11, 13), (11, 14), (11, 15), (11, 16), (11, 17), (11, 18), (24, -5), (25, -5), (26, -5)] m tg F F1340 := by rw [eF1340]; exact Fq_p hM1331 ho1333.2 (fun w => (hX1336.2 _ w).1) rfl
            have c1343 : NP m1322 tg1322 F1340 := by rw [eF1340]; exact NP_u hC1322 c1327 ho1333.2 (by omega)
            have tb1344 := tz_b (F1322 (sc) (15 : Int))
            refine jx_rt (v := none) rfl rfl rfl rfl rfl rfl ?_
            have q1345 : F1340 (sc) (7 : Int) = F (sc) (7 : Int) := ((show F1340 (sc) (7 : Int) = F1322 (sc) (7 : Int) from by rw [eF1340]; exact uF_j (by decide)).trans ((show F1322 (sc) (7 : Int) = Fx (sc) (7 : Int) from hM1322 _ _ ho3.1 (own_z ho3.1) (by rw [ho3.2]; rfl)).trans (show Fx (sc) (7 : Int) = F (sc) (7 : Int) from hMx _ _ o_sc (own_z o_sc) (by rw [t_sc]; rfl))))
            have q1346 : F1340 (pg) (9 : Int) = F1322 (pg) (9 : Int) := (show F1340 (pg) (9 : Int) = F1322 (pg) (9 : Int) from by rw [eF1340]; exact uF_j (by decide))
            have q1347 : F1340 (pg) (3 : Int) = F (pg) (3 : Int) := ((show F1340 (pg) (3 : Int) = F1322 (pg) (3 : Int) from by rw [eF1340]; exact uF_j (by decide)).trans ((show F1322 (pg) (3 : Int) = Fx (pg) (3 : Int) from hM1322 _ _ ho4.1 (own_z ho4.1) (by rw [ho4.2]; rfl)).trans (show Fx (pg) (3 : Int) = F (pg) (3 : Int) from hMx _ _ o_pg (own_z o_pg) (by rw [t_pg]; rfl))))
            have q1348 : F1340 (pg) (0 : Int) = F1322 (pg) (0 : Int) := (show F1340 (pg) (0 : Int) = F1322 (pg) (0 : Int) from by rw [eF1340]; exact uF_j (by decide))
            have q1349 : F1340 (pg) (9 : Int) = F1322 (pg) (9 : Int) := q1346
            exact ⟨m1322, tg1322, ln1322, F1340, rfl, rfl, hX1336, hC1341, hM1342, by omega, by omega, by omega, (Or.inl (by omega)), c1343, c1329, trivial⟩
          have hM1350 : Fq 0 [(7, 15), (9, 2), (9, 3), (10, 0), (10, 1), (10, 2), (10, 5), (10, 7), (10, 8), (10, 9), (11, 8), (11, 12), (11, 13), (11, 14), (11, 15), (11, 16), (11, 17), (11, 18), (24, -5), (25, -5), (26, -5)] m tg F F1310 := Fq_t (ln := ln) (ln1 := lnx) hMx hXx hM1313 (by decide) (Or.inl rfl)
          have lm1351 := hx1311.1
          have ho1352 : own m1309 (me) ∧ tg1309 (me) = 9 := Ex_o hx1311 ⟨ho2.1, ho2.2⟩
          have ho1353 : own m1309 (sc) ∧ tg1309 (sc) = 11 := Ex_o hx1311 ⟨ho3.1, ho3.2⟩
          have ho1354 : own m1309 (pg) ∧ tg1309 (pg) = 10 := Ex_o hx1311 ⟨ho4.1, ho4.2⟩
          have hX1355 := Ex_t hXx hx1311
          have c1356 : NM m m1309 tg1309 := NM_t cx_NM hx1311 c1321
          have c1357 : CR m1309 tg1309 F1310 (F pg (3 : Int)) (0) := CR_x iv_9 hx1311 hM1313 rfl
          refine Or.inl ⟨rfl, ?_⟩
          refine jx_inc (pc_q := 61) (l_q := jSto1 L 1 (.int (i32 (k + (1))))) (x := k) rfl gL_1 (by decide) rfl rfl ?_
          obtain ⟨L1358, eL1358⟩ : ∃ q : jL, q = jSto1 L 1 (.int (i32 ((k + (1))))) := ⟨_, rfl⟩
          rw [← eL1358]
          have g1359 : jGet L1358 0 = some (rv (me)) := eL1358 ▸ jg_nr (by decide) gL_0
          have g1360 : jGet L1358 1 = some (.int (i32 ((k + (1))))) := eL1358 ▸ jg_eq
          clear eL1358
          refine jx_go (tg := 25) rfl rfl ?_
          have q1361 := tz_b (F1310 (sc) (15 : Int))
          have q1362 := lz_b (F1310 (sc) (14 : Int))
          exact ih _ (by omega) L1358 m1309 tg1309 ln1309 F1310 ((k + (1))) rfl g1359 g1360 hX1355 hC1312 hM1350 (by omega) (by omega) (by omega) (by omega) (by omega) (by omega) (by omega) (by omega) (by omega) (by omega) c1357 c1320 c1356
set_option maxRecDepth 20000 in
set_option maxHeartbeats 4000000 in
theorem k_LParser_parse {X : jX} {dd : Nat} {R : Nat → jC} {m : Nat} {tg ln : Int → Int} {F : Int → Int → Int} {me : Int} (hd : 210 ≤ dd) (hC : HC 0 m tg ln F) {sc pg : Int} (o_sc : own m sc) (t_sc : tg sc = 11) (e_sc : F me (1 : Int) = sc) (o_pg : own m pg) (t_pg : tg pg = 10) (e_pg : F me (0 : Int) = pg) (o_me : own m me) (t_me : tg me = 9) (p_0 : F sc (8 : Int) = -1) (p_1 : CR m tg F (F pg (3 : Int)) 0) (c_NP : NP m tg F) : wk X dd 160 [rv me] (cV R m tg ln F) (fun o V_q => ∃ (m_q : Nat) (tg_q ln_q : Int → Int) (F_q : Int → Int → Int), V_q = cV R m_q tg_q ln_q F_q ∧ o = .inl none ∧ Ex m tg ln m_q tg_q ln_q ∧ HC 0 m_q tg_q ln_q F_q ∧ Fq 0 [(7, 15), (9, 2), (9, 3), (10, 0), (10, 1), (10, 2), (10, 5), (10, 7), (10, 8), (10, 9), (11, 8), (11, 12), (11, 13), (11, 14), (11, 15), (11, 16), (11, 17), (11, 18), (24, -5), (25, -5), (26, -5)] m tg F F_q ∧ (szD m_q tg_q ln_q = szD m tg ln + 25 * ((m_q : Int) - (m : Int))) ∧ ((m_q : Int) ≤ (m : Int) + F sc (7 : Int) + 8) ∧ (F_q pg (0 : Int) ≠ 0 ∨ F_q pg (9 : Int) ≤ F pg (9 : Int) + ((m_q : Int) - (m : Int))) ∧ (F_q pg (0 : Int) ≠ 0 ∨ (crt F_q (F pg (3 : Int)) ≤ 1 ∨ 4 * crt F_q (F pg (3 : Int)) + 2 ≤ F sc (7 : Int))) ∧ (NP m_q tg_q F_q) ∧ (NM m m_q tg_q) ∧ True) := by
  obtain ⟨d, rfl⟩ : ∃ d, dd = d + 1 := ⟨dd - 1, by omega⟩
  refine wk_of (e := jm160) rfl (by rw [jS_r, jS_0]; exact Nat.le_of_ble_eq_true rfl) ?_
  rw [la_r, la_0]
  show wj X d jm160 (0, [(0, rv (me))], [], cV R m tg ln F) _
  have hM0 : Fq 0 [(7, 15), (9, 2), (9, 3), (10, 0), (10, 1), (10, 2), (10, 5), (10, 7), (10, 8), (10, 9), (11, 8), (11, 12), (11, 13), (11, 14), (11, 15), (11, 16), (11, 17), (11, 18), (24, -5), (25, -5), (26, -5)] m tg F F := Fq_r
  have hX0 : Ex m tg ln m tg ln := Ex_r
  obtain ⟨L0, eL0⟩ : ∃ q : jL, q = [(0, rv (me))] := ⟨_, rfl⟩
  rw [← eL0]
  have g1363 : jGet L0 0 = some (rv (me)) := eL0 ▸ (rfl : jGet [(0, rv (me))] 0 = some (rv (me)))
  clear eL0
  have tb0 := tz_b (F sc (15 : Int))
  have lb0 := lz_b (F sc (14 : Int))
  have ob0 : (0 : Int) ≤ F me (3 : Int) ∧ F me (3 : Int) ≤ 8 := HC_i (c := 8) (q := 3) hC o_me t_me (by decide) rfl
  have tp0 : F me (2 : Int) < 64 + (m : Int) := by
    have z : F me (2 : Int) = 0 ∨ (own m (F me (2 : Int)) ∧ tg (F me (2 : Int)) = 7) := HC_r (c := 8) (q := 2) hC o_me t_me (by decide) rfl
    rcases z with w | w
    · omega
    · exact w.1.2.1
  have cb : (0 : Int) ≤ F sc (7 : Int) ∧ F sc (7 : Int) ≤ 1000000 := HC_i (c := 10) (q := 7) hC o_sc t_sc (by decide) rfl
  refine jx_ld (pc_q := 1) (l_q := L0) (st_q := [rv (me)]) rfl (jl_rvn g1363) ?_
  refine jx_hp (pc_q := 3) (st_q := [.ref 4, rv (me)]) rfl rfl rfl rfl rfl rfl ?_
  refine jx_ar (pc_q := 5) (st_q := [.int (i32 (12)), .ref 4, rv (me)]) rfl rfl rfl rfl ?_
  refine cx_vi (c := 8) (a := me) (st := []) (as := [.ref 4, .int (i32 (12))]) rfl rfl rfl o_me t_me (by decide) rfl ⟨rfl, rfl, (Nat.le_of_ble_eq_true rfl)⟩ rfl (k_LParser_showHost (dd := d) (R := R) (m := m) (tg := tg) (ln := ln) (F := F) (me := me) (st := 4) (st_s := _) (q_st := rfl) (l_st := (by decide)) (n_st := (by decide)) (ad := 12) (hd := by omega) (hC := hC) (o_me := o_me) (t_me := t_me) (h_ad := by omega) (sc := sc) (pg := pg) (o_sc := o_sc) (t_sc := t_sc) (e_sc := e_sc) (o_pg := o_pg) (t_pg := t_pg) (e_pg := e_pg) (p_0 := (by decide)) (c_NP := c_NP)) (fun o V_q hq => ?_)
  obtain ⟨m1364, tg1364, ln1364, F1365, rfl, rfl, hx1366, hC1367, hM1368, p1369, p1370, c1371, c1372, -⟩ := hq
  have hM1373 : Fq 0 [(7, 15), (9, 2), (9, 3), (10, 0), (10, 1), (10, 2), (10, 5), (10, 7), (10, 8), (10, 9), (11, 8), (11, 12), (11, 13), (11, 14), (11, 15), (11, 16), (11, 17), (11, 18), (24, -5), (25, -5), (26, -5)] m tg F F1365 := Fq_t (ln := ln) (ln1 := ln) hM0 hX0 hM1368 (by decide) (Or.inl rfl)
  have lm1374 := hx1366.1
  have ho1375 : own m1364 (me) ∧ tg1364 (me) = 9 := Ex_o hx1366 ⟨o_me, t_me⟩
  have ho1376 : own m1364 (sc) ∧ tg1364 (sc) = 11 := Ex_o hx1366 ⟨o_sc, t_sc⟩
  have ho1377 : own m1364 (pg) ∧ tg1364 (pg) = 10 := Ex_o hx1366 ⟨o_pg, t_pg⟩
  have hX1378 := Ex_t hX0 hx1366
  have c1379 : NM m m1364 tg1364 := NM_t NM_0 hx1366 c1372
  have c1380 : CR m1364 tg1364 F1365 (F pg (3 : Int)) (0) := CR_x p_1 hx1366 hM1368 rfl
  refine Or.inl ⟨rfl, ?_⟩
  refine jx_ld (pc_q := 9) (l_q := L0) (st_q := [rv (me)]) rfl (jl_rvn g1363) ?_
  refine jx_hp (pc_q := 11) (st_q := [.ref 5, rv (me)]) rfl rfl rfl rfl rfl rfl ?_
  refine jx_ar (pc_q := 13) (st_q := [.int (i32 (13)), .ref 5, rv (me)]) rfl rfl rfl rfl ?_
  refine cx_vi (c := 8) (a := me) (st := []) (as := [.ref 5, .int (i32 (13))]) rfl rfl rfl ho1375.1 ho1375.2 (by decide) rfl ⟨rfl, rfl, (Nat.le_of_ble_eq_true rfl)⟩ rfl (k_LParser_showHost (dd := d) (R := R) (m := m1364) (tg := tg1364) (ln := ln1364) (F := F1365) (me := me) (st := 5) (st_s := _) (q_st := rfl) (l_st := (by decide)) (n_st := (by decide)) (ad := 13) (hd := by omega) (hC := hC1367) (o_me := ho1375.1) (t_me := ho1375.2) (h_ad := by omega) (sc := sc) (pg := pg) (o_sc := ho1376.1) (t_sc := ho1376.2) (e_sc := ((show F1365 (me) (1 : Int) = F (me) (1 : Int) from hM1368 _ _ o_me (own_z o_me) (by rw [t_me]; rfl)).trans e_sc)) (o_pg := ho1377.1) (t_pg := ho1377.2) (e_pg := ((show F1365 (me) (0 : Int) = F (me) (0 : Int) from hM1368 _ _ o_me (own_z o_me) (by rw [t_me]; rfl)).trans e_pg)) (p_0 := (by decide)) (c_NP := c1371)) (fun o V_q hq => ?_)
  obtain ⟨m1381, tg1381, ln1381, F1382, rfl, rfl, hx1383, hC1384, hM1385, p1386, p1387, c1388, c1389, -⟩ := hq
  have hM1390 : Fq 0 [(7, 15), (9, 2), (9, 3), (10, 0), (10, 1), (10, 2), (10, 5), (10, 7), (10, 8), (10, 9), (11, 8), (11, 12), (11, 13), (11, 14), (11, 15), (11, 16), (11, 17), (11, 18), (24, -5), (25, -5), (26, -5)] m tg F F1382 := Fq_t (ln := ln) (ln1 := ln1364) hM1373 hX1378 hM1385 (by decide) (Or.inl rfl)
  have lm1391 := hx1383.1
  have ho1392 : own m1381 (me) ∧ tg1381 (me) = 9 := Ex_o hx1383 ⟨ho1375.1, ho1375.2⟩
  have ho1393 : own m1381 (sc) ∧ tg1381 (sc) = 11 := Ex_o hx1383 ⟨ho1376.1, ho1376.2⟩
  have ho1394 : own m1381 (pg) ∧ tg1381 (pg) = 10 := Ex_o hx1383 ⟨ho1377.1, ho1377.2⟩
  have hX1395 := Ex_t hX1378 hx1383
  have c1396 : NM m m1381 tg1381 := NM_t c1379 hx1383 c1389
  have c1397 : CR m1381 tg1381 F1382 (F pg (3 : Int)) (0) := CR_x c1380 hx1383 hM1385 rfl
  refine Or.inl ⟨rfl, ?_⟩
  refine jx_ld (pc_q := 17) (l_q := L0) (st_q := [rv (me)]) rfl (jl_rvn g1363) ?_
  refine cx_gr (pc_q := 20) (c := 8) (q := 1) (v := sc) rfl rfl (by decide) (by decide) rfl rfl ho1392.1 ho1392.2 (((show F1382 (me) (1 : Int) = F1365 (me) (1 : Int) from hM1385 _ _ ho1375.1 (own_z ho1375.1) (by rw [ho1375.2]; rfl)).trans (show F1365 (me) (1 : Int) = F (me) (1 : Int) from hM1368 _ _ o_me (own_z o_me) (by rw [t_me]; rfl))).trans e_sc) ?_
  have q1398 : F1382 (sc) (8 : Int) = F (sc) (8 : Int) := ((show F1382 (sc) (8 : Int) = F1365 (sc) (8 : Int) from hM1385 _ _ ho1376.1 (own_z ho1376.1) (by rw [ho1376.2]; rfl)).trans (show F1365 (sc) (8 : Int) = F (sc) (8 : Int) from hM1368 _ _ o_sc (own_z o_sc) (by rw [t_sc]; rfl)))
  have q1399 : F1382 (sc) (7 : Int) = F (sc) (7 : Int) := ((show F1382 (sc) (7 : Int) = F1365 (sc) (7 : Int) from hM1385 _ _ ho1376.1 (own_z ho1376.1) (by rw [ho1376.2]; rfl)).trans (show F1365 (sc) (7 : Int) = F (sc) (7 : Int) from hM1368 _ _ o_sc (own_z o_sc) (by rw [t_sc]; rfl)))
  refine cx_vi (c := 10) (a := sc) (st := []) (as := []) rfl rfl rfl ho1393.1 ho1393.2 (by decide) rfl ⟨rfl, rfl, (Nat.le_of_ble_eq_true rfl)⟩ rfl (k_LScanner_nextLine (dd := d) (R := R) (m := m1381) (tg := tg1381) (ln := ln1381) (F := F1382) (me := sc) (hd := by omega) (hC := hC1384) (o_me := ho1393.1) (t_me := ho1393.2) (p_0 := by omega)) (fun o V_q hq => ?_)
  obtain ⟨F1400, rfl, rfl, hC1401, hM1402, p1403, p1404, p1405, -⟩ := hq
  have hM1406 : Fq 0 [(7, 15), (9, 2), (9, 3), (10, 0), (10, 1), (10, 2), (10, 5), (10, 7), (10, 8), (10, 9), (11, 8), (11, 12), (11, 13), (11, 14), (11, 15), (11, 16), (11, 17), (11, 18), (24, -5), (25, -5), (26, -5)] m tg F F1400 := Fq_t (ln := ln) (ln1 := ln1381) hM1390 hX1395 hM1402 (by decide) (Or.inl rfl)
  have c1407 : NP m1381 tg1381 F1400 := NP_q hC1384 c1388 hM1402 rfl rfl
  have c1408 : CR m1381 tg1381 F1400 (F pg (3 : Int)) (0) := CR_q c1397 hM1402 rfl
  refine Or.inl ⟨rfl, ?_⟩
  refine jx_ar (pc_q := 24) (st_q := [.int (i32 (0))]) rfl rfl rfl rfl ?_
  refine jx_ld (pc_q := 25) (l_q := jSto1 L0 1 (.int (i32 (0)))) (st_q := []) rfl rfl ?_
  obtain ⟨L1409, eL1409⟩ : ∃ q : jL, q = jSto1 L0 1 (.int (i32 (0))) := ⟨_, rfl⟩
  rw [← eL1409]
  have g1410 : jGet L1409 0 = some (rv (me)) := eL1409 ▸ jg_nr (by decide) g1363
  have g1411 : jGet L1409 1 = some (.int (i32 (0))) := eL1409 ▸ jg_eq
  clear eL1409
  have q1412 := tz_b (F1400 (sc) (15 : Int))
  have q1413 := lz_b (F1400 (sc) (14 : Int))
  have q1414 : F1400 (pg) (9 : Int) = F (pg) (9 : Int) := ((show F1400 (pg) (9 : Int) = F1382 (pg) (9 : Int) from hM1402 _ _ ho1394.1 (own_z ho1394.1) (by rw [ho1394.2]; rfl)).trans ((show F1382 (pg) (9 : Int) = F1365 (pg) (9 : Int) from hM1385 _ _ ho1377.1 (own_z ho1377.1) (by rw [ho1377.2]; rfl)).trans (show F1365 (pg) (9 : Int) = F (pg) (9 : Int) from hM1368 _ _ o_pg (own_z o_pg) (by rw [t_pg]; rfl))))
  exact k_LParser_parse_at_25 (X := X) (d := d) (R := R) (m := m) (tg := tg) (ln := ln) (F := F) (me := me) (hd := hd) (hC := hC) (sc := sc) (pg := pg) (o_sc := o_sc) (t_sc := t_sc) (e_sc := e_sc) (o_pg := o_pg) (t_pg := t_pg) (e_pg := e_pg) (o_me := o_me) (t_me := t_me) (p_0 := p_0) (p_1 := p_1) (c_NP := c_NP) _ L1409 m1381 tg1381 ln1381 F1400 (0) rfl g1410 g1411 hX1395 hC1401 hM1406 (by omega) (by omega) (by omega) (by omega) (by omega) (by omega) (by omega) (by omega) (by omega) (by omega) c1408 c1407 c1396
