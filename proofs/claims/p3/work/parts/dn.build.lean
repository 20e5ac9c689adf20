set_option maxRecDepth 20000 in
set_option maxHeartbeats 4000000 in
theorem k_LY_build_at_34 {X : jX} {d : Nat} {R : Nat → jC} {m : Nat} {tg ln : Int → Int} {F : Int → Int → Int} {kk : Int} {me pr : Int} (hd : 260 ≤ d + 1) (hC : HC 0 m tg ln F) (o_me : own m me) (t_me : tg me = 1) (o_pr : own m pr) (t_pr : tg pr = 10) (p_0 : 0 ≤ kk) (c_NP : NP m tg F) (c_SB : SB m tg F (kk)) (c_T3 : T3 m tg) : ∀ (mm : Nat) (L : jL) (mx : Nat) (tgx lnx : Int → Int) (Fx : Int → Int → Int) (p cd mc : Int), (6 - p).toNat = mm → jGet L 0 = some (rv (me)) → jGet L 1 = some (rv (pr)) → jGet L 4 = some (.int (i32 p)) → jGet L 2 = some (rv cd) → jGet L 3 = some (rv mc) → Ex m tg ln mx tgx lnx → HC 0 mx tgx lnx Fx → Fq 0 [(1, 5), (2, 7), (2, 8), (2, 9), (2, 10), (2, 11), (3, 5), (3, 6), (3, 7), (3, 8), (3, 9), (3, 10), (3, 11), (3, 12), (3, 13), (3, 14), (3, 16), (3, 17), (3, 18), (3, 19), (3, 20), (5, 2), (5, 3), (5, 4), (5, 5), (5, 6), (5, 7), (6, 3), (6, 4), (6, 6), (6, 7), (6, 8), (7, 6), (7, 9), (7, 10), (10, 0), (10, 1), (10, 2), (20, -5), (21, -5), (27, -5)] m tg F Fx → ((-2147483648 : Int) ≤ p ∧ p ≤ 2147483647) → (cd = 0 ∨ (own mx cd ∧ tgx cd = 2)) → (mc = 0 ∨ (own mx mc ∧ tgx mc = 6)) → (0 ≤ p) → (p ≤ 6) → (szD mx tgx lnx ≤ szD m tg ln + 1234 + 42033 * (1 - tz (F me (5 : Int))) + 11051 * crk F (F pr (3 : Int)) p) → ((mx : Int) ≤ (m : Int) + 12 + 5 * p) → (Fx me (5 : Int) ≠ 0) → (cd ≠ 0) → (mc ≠ 0) → (NP mx tgx Fx) → (SB mx tgx Fx (kk)) → (T3 mx tgx) → wj X d jm41 (34, L, [], cV R mx tgx lnx Fx) (fun o V_q => ∃ (m_q : Nat) (tg_q ln_q : Int → Int) (F_q : Int → Int → Int) (r : Int), V_q = cV R m_q tg_q ln_q F_q ∧ o = .inl (some (rv r)) ∧ Ex m tg ln m_q tg_q ln_q ∧ HC 0 m_q tg_q ln_q F_q ∧ Fq 0 [(1, 5), (2, 7), (2, 8), (2, 9), (2, 10), (2, 11), (3, 5), (3, 6), (3, 7), (3, 8), (3, 9), (3, 10), (3, 11), (3, 12), (3, 13), (3, 14), (3, 16), (3, 17), (3, 18), (3, 19), (3, 20), (5, 2), (5, 3), (5, 4), (5, 5), (5, 6), (5, 7), (6, 3), (6, 4), (6, 6), (6, 7), (6, 8), (7, 6), (7, 9), (7, 10), (10, 0), (10, 1), (10, 2), (20, -5), (21, -5), (27, -5)] m tg F F_q ∧ (r = 0 ∨ (own m_q r ∧ tg_q r = 6)) ∧ (szD m_q tg_q ln_q ≤ szD m tg ln + 1234 + 42033 * (1 - tz (F me (5 : Int))) + 11051 * crt F (F pr (3 : Int))) ∧ ((m_q : Int) ≤ (m : Int) + 42) ∧ (F_q me (5 : Int) ≠ 0) ∧ (NP m_q tg_q F_q) ∧ (SB m_q tg_q F_q (kk + 1)) ∧ (T3 m_q tg_q) ∧ True) := by
  intro mm
  induction mm using Nat.strongRecOn with
  | ind mm ih =>
    intro L mx tgx lnx Fx p cd mc hmm gL_0 gL_1 gL_4 gL_2 gL_3 hXx hCx hMx rx_p yx_cd yx_mc iv_0 iv_1 iv_2 iv_3 iv_4 iv_5 iv_6 cx_NP cx_SB cx_T3
    have hX0 : Ex m tg ln m tg ln := Ex_r
    have ho1 : own mx (me) ∧ tgx (me) = 1 := Ex_o hXx ⟨o_me, t_me⟩
    have ho2 : own mx (pr) ∧ tgx (pr) = 10 := Ex_o hXx ⟨o_pr, t_pr⟩
    have hX3 := Ex_t hX0 hXx
    have hz4 : cd ≠ 0 := by omega
    have ho5 : own mx (cd) ∧ tgx (cd) = 2 := yx_cd.resolve_left hz4
    have hz6 : mc ≠ 0 := by omega
    have ho7 : own mx (mc) ∧ tgx (mc) = 6 := yx_mc.resolve_left hz6
    have rr : own m (F (pr) (3 : Int)) ∧ tg (F (pr) (3 : Int)) = 24 ∧ ((6 : Int) ≠ 0 → ln (F (pr) (3 : Int)) = 6) := by have z := HC_n (c := 9) (q := 3) hC o_pr t_pr (own_z o_pr) (by decide) rfl; exact ⟨z.1, z.2.1, z.2.2.1⟩
    have ks := crk_l (F := F) (a := F (pr) (3 : Int)) (p := p) (by omega) (by omega)
    refine jx_ld (pc_q := 36) (l_q := L) (st_q := [.int (i32 (p))]) rfl (jl_iload gL_4) ?_
    refine jx_ar (pc_q := 38) (st_q := [.int (i32 (6)), .int (i32 (p))]) rfl rfl rfl rfl ?_
    refine jx_icmp_ge (pc_q := 41) (tg := 113) rfl rfl rfl (by omega) (by omega) (by decide) (by decide) (fun h8 => ?_) (fun h8 => ?_)
    · have _q := h8
      have k6 : p = 6 := by omega
      rw [k6, crk_6] at iv_2
      refine jx_ld (pc_q := 114) (l_q := L) (st_q := [rv (mc)]) rfl (jl_rvn gL_3) ?_
      refine cx_vi (c := 5) (a := mc) (st := []) (as := []) rfl rfl rfl ho7.1 ho7.2 (by decide) rfl ⟨rfl, rfl, (Nat.le_of_ble_eq_true rfl)⟩ rfl (k_LMachine_reset (dd := d) (R := R) (m := mx) (tg := tgx) (ln := lnx) (F := Fx) (me := mc) (hd := by omega) (hC := hCx) (o_me := ho7.1) (t_me := ho7.2) (p_0 := by omega) (kk := kk) (c_SB := cx_SB)) (fun o V_q hq => ?_)
      obtain ⟨F9, rfl, rfl, hC10, hM11, c12, -⟩ := hq
      have hM13 : Fq 0 [(1, 5), (2, 7), (2, 8), (2, 9), (2, 10), (2, 11), (3, 5), (3, 6), (3, 7), (3, 8), (3, 9), (3, 10), (3, 11), (3, 12), (3, 13), (3, 14), (3, 16), (3, 17), (3, 18), (3, 19), (3, 20), (5, 2), (5, 3), (5, 4), (5, 5), (5, 6), (5, 7), (6, 3), (6, 4), (6, 6), (6, 7), (6, 8), (7, 6), (7, 9), (7, 10), (10, 0), (10, 1), (10, 2), (20, -5), (21, -5), (27, -5)] m tg F F9 := Fq_t (ln := ln) (ln1 := lnx) hMx hXx hM11 (by decide) (Or.inl rfl)
      have c14 : NP mx tgx F9 := NP_q hCx cx_NP hM11 rfl rfl
      refine Or.inl ⟨rfl, ?_⟩
      refine jx_ld (pc_q := 118) (l_q := L) (st_q := [rv (mc)]) rfl (jl_rvn gL_3) ?_
      refine jx_rt (v := some (rv (mc))) rfl rfl rfl rfl rfl jr_are ?_
      have q15 : F9 (me) (5 : Int) = Fx (me) (5 : Int) := (show F9 (me) (5 : Int) = Fx (me) (5 : Int) from hM11 _ _ ho1.1 (own_z ho1.1) (by rw [ho1.2]; rfl))
      exact ⟨mx, tgx, lnx, F9, (mc), rfl, rfl, hXx, hC10, hM13, (Or.inr ⟨ho7.1, ho7.2⟩), by omega, by omega, by omega, c14, SB_m c12 (by omega), cx_T3, trivial⟩
    · have _q := h8
      refine jx_ld (pc_q := 42) (l_q := L) (st_q := [rv (pr)]) rfl (jl_rvn gL_1) ?_
      refine cx_gr (pc_q := 45) (c := 9) (q := 3) (v := F (pr) (3 : Int)) rfl rfl (by decide) (by decide) rfl rfl ho2.1 ho2.2 (show Fx (pr) (3 : Int) = F (pr) (3 : Int) from hMx _ _ o_pr (own_z o_pr) (by rw [t_pr]; rfl)) ?_
      have y16 : own mx (F (pr) (3 : Int)) ∧ tgx (F (pr) (3 : Int)) = 24 ∧ ((6 : Int) ≠ 0 → lnx (F (pr) (3 : Int)) = 6) := by have z := HC_n (c := 9) (q := 3) hCx ho2.1 ho2.2 (own_z ho2.1) (by decide) rfl; rw [show Fx (pr) ((3 : Nat) : Int) = F (pr) (3 : Int) from (show Fx (pr) (3 : Int) = F (pr) (3 : Int) from hMx _ _ o_pr (own_z o_pr) (by rw [t_pr]; rfl))] at z; exact ⟨z.1, z.2.1, z.2.2.1⟩
      have ly16 : lnx (F (pr) (3 : Int)) = 6 := y16.2.2 (by decide)
      refine jx_ld (pc_q := 47) (l_q := L) (st_q := [.int (i32 (p)), rv (F (pr) (3 : Int))]) rfl (jl_iload gL_4) ?_
      have b17 := HC_l hCx y16.1 y16.2.1 (by decide)
      refine cx_aal (pc_q := 48) (z := p) rfl rfl y16.1 (by rw [y16.2.1]; decide) (by omega) (by omega) (by omega) ?_
      rw [show Fx (F (pr) (3 : Int)) (p) = F (F (pr) (3 : Int)) (p) from (show Fx (F (pr) (3 : Int)) (p) = F (F (pr) (3 : Int)) (p) from hMx _ _ rr.1 (own_z rr.1) (by rw [rr.2.1]; rfl))]
      have y18 : F (F (pr) (3 : Int)) (p) = 0 ∨ (own mx (F (F (pr) (3 : Int)) (p)) ∧ tgx (F (F (pr) (3 : Int)) (p)) = 8) := by have z := HC_er (j := p) hCx y16.1 y16.2.1 (by decide) (by omega); rw [show Fx (F (pr) (3 : Int)) (p) = F (F (pr) (3 : Int)) (p) from (show Fx (F (pr) (3 : Int)) (p) = F (F (pr) (3 : Int)) (p) from hMx _ _ rr.1 (own_z rr.1) (by rw [rr.2.1]; rfl))] at z; exact z
      have kt := crk_s (F := F) (a := F (pr) (3 : Int)) (p := p) (by omega) (by omega)
      have kz := tz_f (F (F (pr) (3 : Int)) (p))
      refine jx_ld (pc_q := 50) (l_q := jSto1 L 5 (rv (F (F (pr) (3 : Int)) (p)))) (st_q := []) rfl (js_rv (by decide)) ?_
      obtain ⟨L19, eL19⟩ : ∃ q : jL, q = jSto1 L 5 (rv (F (F (pr) (3 : Int)) (p))) := ⟨_, rfl⟩
      rw [← eL19]
      have g20 : jGet L19 0 = some (rv (me)) := eL19 ▸ jg_nr (by decide) gL_0
      have g21 : jGet L19 1 = some (rv (pr)) := eL19 ▸ jg_nr (by decide) gL_1
      have g22 : jGet L19 4 = some (.int (i32 (p))) := eL19 ▸ jg_ne (by decide) gL_4 rfl
      have g23 : jGet L19 2 = some (rv (cd)) := eL19 ▸ jg_nr (by decide) gL_2
      have g24 : jGet L19 3 = some (rv (mc)) := eL19 ▸ jg_nr (by decide) gL_3
      have g25 : jGet L19 5 = some (rv (F (F (pr) (3 : Int)) (p))) := eL19 ▸ jg_eq
      clear eL19
      refine jx_ld (pc_q := 52) (l_q := L19) (st_q := [rv (F (F (pr) (3 : Int)) (p))]) rfl (jl_rv g25) ?_
      refine cx_non (pc_q := 55) (tg_q := 58) rfl rfl rfl (fun h26 => ?_) (fun h26 => ?_)
      · have _q := h26
        have ho27 : own mx (F (F (pr) (3 : Int)) (p)) ∧ tgx (F (F (pr) (3 : Int)) (p)) = 8 := y18.resolve_left h26
        refine jx_ld (pc_q := 59) (l_q := L19) (st_q := [rv (cd)]) rfl (jl_rvn g23) ?_
        refine jx_ld (pc_q := 60) (l_q := L19) (st_q := [rv (pr), rv (cd)]) rfl (jl_rvn g21) ?_
        refine jx_ld (pc_q := 62) (l_q := L19) (st_q := [rv (F (F (pr) (3 : Int)) (p)), rv (pr), rv (cd)]) rfl (jl_rv g25) ?_
        refine cx_vi (c := 1) (a := cd) (st := []) (as := [rv (pr), rv (F (F (pr) (3 : Int)) (p))]) rfl rfl rfl ho5.1 ho5.2 (by decide) rfl ⟨rfl, rfl, (Nat.le_of_ble_eq_true rfl)⟩ rfl (k_LCoder_translate (dd := d) (R := R) (m := mx) (tg := tgx) (ln := lnx) (F := Fx) (kk := 60) (me := cd) (pg_ := pr) (rt := F (F (pr) (3 : Int)) (p)) (hd := by omega) (hC := hCx) (o_me := ho5.1) (t_me := ho5.2) (o_pg_ := ho2.1) (t_pg_ := ho2.2) (o_rt := ho27.1) (t_rt := ho27.2) (p_0 := by omega) (c_NT := cx_NP.1) (c_PG := cx_NP.2.1) (n_rt := (by have z := cx_NP.2.1.1 _ y16.1 y16.2.1 (show Fx (F (pr) (3 : Int)) (-1) = 0 by have z := HC_n (c := 9) (q := 3) hCx ho2.1 ho2.2 (own_z ho2.1) (by decide) rfl; rw [show Fx (pr) ((3 : Nat) : Int) = F (pr) (3 : Int) from (show Fx (pr) (3 : Int) = F (pr) (3 : Int) from hMx _ _ o_pr (own_z o_pr) (by rw [t_pr]; rfl))] at z; exact z.2.2.2 (by decide)) (p) (by omega); rw [show Fx (F (pr) (3 : Int)) (p) = F (F (pr) (3 : Int)) (p) from (show Fx (F (pr) (3 : Int)) (p) = F (F (pr) (3 : Int)) (p) from hMx _ _ rr.1 (own_z rr.1) (by rw [rr.2.1]; rfl))] at z; exact z))) (fun o V_q hq => ?_)
        obtain ⟨F28, rfl, rfl, hC29, hM30, -⟩ := hq
        have hM31 : Fq 0 [(1, 5), (2, 7), (2, 8), (2, 9), (2, 10), (2, 11), (3, 5), (3, 6), (3, 7), (3, 8), (3, 9), (3, 10), (3, 11), (3, 12), (3, 13), (3, 14), (3, 16), (3, 17), (3, 18), (3, 19), (3, 20), (5, 2), (5, 3), (5, 4), (5, 5), (5, 6), (5, 7), (6, 3), (6, 4), (6, 6), (6, 7), (6, 8), (7, 6), (7, 9), (7, 10), (10, 0), (10, 1), (10, 2), (20, -5), (21, -5), (27, -5)] m tg F F28 := Fq_t (ln := ln) (ln1 := lnx) hMx hXx hM30 (by decide) (Or.inl rfl)
        have c32 : NP mx tgx F28 := NP_q hCx cx_NP hM30 rfl rfl
        have c33 : SB mx tgx F28 (kk) := SB_q cx_SB hM30 rfl
        refine Or.inl ⟨rfl, ?_⟩
        refine jx_ld (pc_q := 66) (l_q := L19) (st_q := [rv (cd)]) rfl (jl_rvn g23) ?_
        refine cx_gi (pc_q := 69) (c := 1) (q := 11) (v := F28 (cd) (11 : Int)) rfl rfl (by decide) (by decide) (Or.inr rfl) rfl ho5.1 ho5.2 rfl ?_
        have b34 : (0 : Int) ≤ F28 (cd) (11 : Int) ∧ F28 (cd) (11 : Int) ≤ 1 := by have z := HC_i (c := 1) (q := 11) hC29 ho5.1 ho5.2 (by decide) rfl; rw [show F28 (cd) ((11 : Nat) : Int) = F28 (cd) (11 : Int) from rfl] at z; exact z
        refine jx_if_eq (pc_q := 72) (tg := 82) rfl rfl rfl (by omega) (by omega) (fun h35 => ?_) (fun h35 => ?_)
        · have _q := h35
          refine jx_ld (pc_q := 83) (l_q := L19) (st_q := [rv (mc)]) rfl (jl_rvn g24) ?_
          refine cx_gr (pc_q := 86) (c := 5) (q := 1) (v := Fx (mc) (1 : Int)) rfl rfl (by decide) (by decide) rfl rfl ho7.1 ho7.2 (show F28 (mc) (1 : Int) = Fx (mc) (1 : Int) from hM30 _ _ ho7.1 (own_z ho7.1) (by rw [ho7.2]; rfl)) ?_
          have y36 : own mx (Fx (mc) (1 : Int)) ∧ tgx (Fx (mc) (1 : Int)) = 27 ∧ ((6 : Int) ≠ 0 → lnx (Fx (mc) (1 : Int)) = 6) := by have z := HC_n (c := 5) (q := 1) hC29 ho7.1 ho7.2 (own_z ho7.1) (by decide) rfl; rw [show F28 (mc) ((1 : Nat) : Int) = Fx (mc) (1 : Int) from (show F28 (mc) (1 : Int) = Fx (mc) (1 : Int) from hM30 _ _ ho7.1 (own_z ho7.1) (by rw [ho7.2]; rfl))] at z; exact ⟨z.1, z.2.1, z.2.2.1⟩
          have ly36 : lnx (Fx (mc) (1 : Int)) = 6 := y36.2.2 (by decide)
          refine jx_ld (pc_q := 88) (l_q := L19) (st_q := [.int (i32 (p)), rv (Fx (mc) (1 : Int))]) rfl (jl_iload g22) ?_
          refine cx_newc (pc_q := 91) (c := 2) rfl rfl (by decide) rfl rfl hC29 rfl (fun n37 m37 tg37 ln37 F37 en37 em37 ho37 hx37 hC37 hf37 h037 hs37 => ?_)
          have ex37 : 64 + (m : Int) ≤ n37 := by have := hXx.1; omega
          have ho38 : own m37 (me) ∧ tg37 (me) = 1 := Ex_o hx37 ⟨ho1.1, ho1.2⟩
          have ho39 : own m37 (pr) ∧ tg37 (pr) = 10 := Ex_o hx37 ⟨ho2.1, ho2.2⟩
          have ho40 : own m37 (cd) ∧ tg37 (cd) = 2 := Ex_o hx37 ⟨ho5.1, ho5.2⟩
          have ho41 : own m37 (mc) ∧ tg37 (mc) = 6 := Ex_o hx37 ⟨ho7.1, ho7.2⟩
          have ho42 : own m37 (F (F (pr) (3 : Int)) (p)) ∧ tg37 (F (F (pr) (3 : Int)) (p)) = 8 := Ex_o hx37 ⟨ho27.1, ho27.2⟩
          have ho43 : own m37 (Fx (mc) (1 : Int)) ∧ tg37 (Fx (mc) (1 : Int)) = 27 := Ex_o hx37 ⟨y36.1, y36.2.1⟩
          have ln44 := (hx37.2 _ y36.1).2
          have hX45 := Ex_t hXx hx37
          have hM46 : Fq 0 [(1, 5), (2, 7), (2, 8), (2, 9), (2, 10), (2, 11), (3, 5), (3, 6), (3, 7), (3, 8), (3, 9), (3, 10), (3, 11), (3, 12), (3, 13), (3, 14), (3, 16), (3, 17), (3, 18), (3, 19), (3, 20), (5, 2), (5, 3), (5, 4), (5, 5), (5, 6), (5, 7), (6, 3), (6, 4), (6, 6), (6, 7), (6, 8), (7, 6), (7, 9), (7, 10), (10, 0), (10, 1), (10, 2), (20, -5), (21, -5), (27, -5)] m tg F F37 := Fq_n hM31 hf37 ex37
          have oe47 : OE mx tgx F28 F37 := OE_n OE_r (Nat.le_refl _) en37 hf37
          refine jx_ar (pc_q := 92) (st_q := [rv (n37), rv (n37), .int (i32 (p)), rv (Fx (mc) (1 : Int))]) rfl rfl ja_dup rfl ?_
          refine jx_ld (pc_q := 93) (l_q := L19) (st_q := [rv (mc), rv (n37), rv (n37), .int (i32 (p)), rv (Fx (mc) (1 : Int))]) rfl (jl_rvn g24) ?_
          refine jx_ld (pc_q := 94) (l_q := L19) (st_q := [rv (cd), rv (mc), rv (n37), rv (n37), .int (i32 (p)), rv (Fx (mc) (1 : Int))]) rfl (jl_rvn g23) ?_
          refine cx_vi (c := 1) (a := cd) (st := [rv (mc), rv (n37), rv (n37), .int (i32 (p)), rv (Fx (mc) (1 : Int))]) (as := []) rfl rfl rfl ho40.1 ho40.2 (by decide) rfl ⟨rfl, rfl, (by rw [jS_r, jS_r, jS_r, jS_i, jS_r, jS_0]; exact Nat.le_of_ble_eq_true rfl)⟩ rfl (k_LCoder_bytes (dd := d) (R := R) (u := n37) (m := m37) (tg := tg37) (ln := ln37) (F := F37) (me := cd) (hd := by omega) (hC := hC37) (o_me := ho40.1) (t_me := ho40.2) (p_0 := (ne_t ho40.2 ho37.2 (by decide)))) (fun o V_q hq => ?_)
          obtain ⟨m48, tg48, ln48, F49, r50, rfl, rfl, hx51, hC52, hM53, b54, s55, p56, p57, c58, -⟩ := hq
          have hM59 : Fq 0 [(1, 5), (2, 7), (2, 8), (2, 9), (2, 10), (2, 11), (3, 5), (3, 6), (3, 7), (3, 8), (3, 9), (3, 10), (3, 11), (3, 12), (3, 13), (3, 14), (3, 16), (3, 17), (3, 18), (3, 19), (3, 20), (5, 2), (5, 3), (5, 4), (5, 5), (5, 6), (5, 7), (6, 3), (6, 4), (6, 6), (6, 7), (6, 8), (7, 6), (7, 9), (7, 10), (10, 0), (10, 1), (10, 2), (20, -5), (21, -5), (27, -5)] m tg F F49 := Fq_t (ln := ln) (ln1 := ln37) hM46 hX45 hM53 (by decide) (Or.inl rfl)
          have ho60 : own m48 (me) ∧ tg48 (me) = 1 := Ex_o hx51 ⟨ho38.1, ho38.2⟩
          have ho61 : own m48 (pr) ∧ tg48 (pr) = 10 := Ex_o hx51 ⟨ho39.1, ho39.2⟩
          have ho62 : own m48 (cd) ∧ tg48 (cd) = 2 := Ex_o hx51 ⟨ho40.1, ho40.2⟩
          have ho63 : own m48 (mc) ∧ tg48 (mc) = 6 := Ex_o hx51 ⟨ho41.1, ho41.2⟩
          have ho64 : own m48 (F (F (pr) (3 : Int)) (p)) ∧ tg48 (F (F (pr) (3 : Int)) (p)) = 8 := Ex_o hx51 ⟨ho42.1, ho42.2⟩
          have ho65 : own m48 (n37) ∧ tg48 (n37) = 3 := Ex_o hx51 ⟨ho37.1, ho37.2⟩
          have ho66 : own m48 (Fx (mc) (1 : Int)) ∧ tg48 (Fx (mc) (1 : Int)) = 27 := Ex_o hx51 ⟨ho43.1, ho43.2⟩
          have ln67 := (hx51.2 _ ho43.1).2
          have hX68 := Ex_t hX45 hx51
          have oe69 := OE_q oe47 hx37 hM53 (Or.inl rfl) rfl
          refine Or.inr (Or.inl ⟨_, rfl, ?_⟩)
          refine jx_ld (pc_q := 98) (l_q := L19) (st_q := [rv (cd), rv (r50), rv (mc), rv (n37), rv (n37), .int (i32 (p)), rv (Fx (mc) (1 : Int))]) rfl (jl_rvn g23) ?_
          refine cx_vi (c := 1) (a := cd) (st := [rv (r50), rv (mc), rv (n37), rv (n37), .int (i32 (p)), rv (Fx (mc) (1 : Int))]) (as := []) rfl rfl rfl ho62.1 ho62.2 (by decide) rfl ⟨rfl, rfl, (by rw [jS_r, jS_r, jS_r, jS_r, jS_i, jS_r, jS_0]; exact Nat.le_of_ble_eq_true rfl)⟩ rfl (k_LU_start (dd := d) (R := R) (u := n37) (m := m48) (tg := tg48) (ln := ln48) (F := F49) (me := cd) (hd := by omega) (hC := hC52) (o_me := ho62.1) (t_me := ho62.2) (p_0 := (ne_t ho62.2 ho65.2 (by decide)))) (fun o V_q hq => ?_)
          obtain ⟨r70, rfl, rfl, b71, -⟩ := hq
          refine Or.inr (Or.inl ⟨_, rfl, ?_⟩)
          refine jx_ld (pc_q := 103) (l_q := L19) (st_q := [rv (F (F (pr) (3 : Int)) (p)), .int (i32 (r70)), rv (r50), rv (mc), rv (n37), rv (n37), .int (i32 (p)), rv (Fx (mc) (1 : Int))]) rfl (jl_rv g25) ?_
          refine cx_sp (kd := 2) (a := n37) (st := [rv (n37), .int (i32 (p)), rv (Fx (mc) (1 : Int))]) (as := [rv (mc), rv (r50), .int (i32 (r70)), rv (F (F (pr) (3 : Int)) (p))]) rfl rfl (by decide) rfl ho65.1.1 ⟨rfl, (by rw [jS_r, jS_i, jS_r, jS_0]; exact Nat.le_of_ble_eq_true rfl)⟩ rfl (k_LCore_init (dd := d) (R := R) (m := m48) (tg := tg48) (ln := ln48) (F := F49) (me := n37) (mc := mc) (cd := r50) (st := r70) (rt := F (F (pr) (3 : Int)) (p)) (hd := by omega) (hC := hC52) (o_me := ho65.1) (t_me := ho65.2) (o_mc := ho63.1) (t_mc := ho63.2) (o_cd := b54.1) (t_cd := b54.2) (s_cd := s55) (h_st := by omega) (o_rt := ho64.1) (t_rt := ho64.2) (z_me := (fun i => ((hM53 _ i ho37.1 (own_z ho37.1) (by rw [ho37.2]; rfl)).trans (h037 i))))) (fun o V_q hq => ?_)
          obtain ⟨m72, tg72, ln72, F73, rfl, rfl, hx74, hC75, hM76, p77, p78, c79, -⟩ := hq
          have hM80 : Fq 0 [(1, 5), (2, 7), (2, 8), (2, 9), (2, 10), (2, 11), (3, 5), (3, 6), (3, 7), (3, 8), (3, 9), (3, 10), (3, 11), (3, 12), (3, 13), (3, 14), (3, 16), (3, 17), (3, 18), (3, 19), (3, 20), (5, 2), (5, 3), (5, 4), (5, 5), (5, 6), (5, 7), (6, 3), (6, 4), (6, 6), (6, 7), (6, 8), (7, 6), (7, 9), (7, 10), (10, 0), (10, 1), (10, 2), (20, -5), (21, -5), (27, -5)] m tg F F73 := Fq_t (ln := ln) (ln1 := ln48) hM59 hX68 hM76 (by decide) (Or.inr (Or.inr ex37))
          have ho81 : own m72 (me) ∧ tg72 (me) = 1 := Ex_o hx74 ⟨ho60.1, ho60.2⟩
          have ho82 : own m72 (pr) ∧ tg72 (pr) = 10 := Ex_o hx74 ⟨ho61.1, ho61.2⟩
          have ho83 : own m72 (cd) ∧ tg72 (cd) = 2 := Ex_o hx74 ⟨ho62.1, ho62.2⟩
          have ho84 : own m72 (mc) ∧ tg72 (mc) = 6 := Ex_o hx74 ⟨ho63.1, ho63.2⟩
          have ho85 : own m72 (F (F (pr) (3 : Int)) (p)) ∧ tg72 (F (F (pr) (3 : Int)) (p)) = 8 := Ex_o hx74 ⟨ho64.1, ho64.2⟩
          have ho86 : own m72 (n37) ∧ tg72 (n37) = 3 := Ex_o hx74 ⟨ho65.1, ho65.2⟩
          have ho87 : own m72 (Fx (mc) (1 : Int)) ∧ tg72 (Fx (mc) (1 : Int)) = 27 := Ex_o hx74 ⟨ho66.1, ho66.2⟩
          have ln88 := (hx74.2 _ ho66.1).2
          have hX89 := Ex_t hX68 hx74
          have oe90 := OE_q oe69 (Ex_t hx37 hx51) hM76 (Or.inr (by have := (Ex_t hx37 hx51).1; omega)) rfl
          have wn91 := WN (F_q := F73) hC29.1 en37 em37 ho37.2 ho37.1 (Ex_t hx51 hx74) (NW_t c58 hx74 c79 (fun b i ob tb => hM76 b i ob (ne_t tb ho65.2 (by decide)) rfl)) (by decide)
          have c92 : NP m72 tg72 F73 := NP_v hC29 c32 (Ex_t hx37 (Ex_t hx51 hx74)) oe90 wn91
          have c93 : SB m72 tg72 F73 (kk) := SB_v c33 (Ex_t hx37 (Ex_t hx51 hx74)) oe90 wn91 ho86.2 (Or.inl (by decide))
          have c94 : T3 m72 tg72 := T3_v (F_q := F73) cx_T3 (Ex_t hx37 (Ex_t hx51 hx74)) en37 em37 ho37.2 ho37.1 (Ex_t hx51 hx74) (NW_t c58 hx74 c79 (fun b i ob tb => hM76 b i ob (ne_t tb ho65.2 (by decide)) rfl)) (by decide)
          refine Or.inl ⟨rfl, ?_⟩
          have b95 := HC_l hC75 ho87.1 ho87.2 (by decide)
          refine cx_aas (pc_q := 107) (c := 2) (z := p) (y := n37) rfl rfl ho87.1 (by rw [ho87.2]; decide) (by omega) (by omega) (by omega) (fun hz => (Or.inr ⟨ho86.1, ho86.2⟩).resolve_left hz) (by decide) (by rw [ho87.2]; rfl) ?_
          obtain ⟨F96, eF96⟩ : ∃ q, q = uF F73 (Fx (mc) (1 : Int)) (p) (n37) := ⟨_, rfl⟩
          rw [← eF96]
          have hC97 : HC 0 m72 tg72 ln72 F96 := by rw [eF96]; exact HC_pa hC75 ho87.1 ho87.2 (by decide) (by omega) (Or.inr ⟨ho86.1, ho86.2⟩)
          have hM98 : Fq 0 [(1, 5), (2, 7), (2, 8), (2, 9), (2, 10), (2, 11), (3, 5), (3, 6), (3, 7), (3, 8), (3, 9), (3, 10), (3, 11), (3, 12), (3, 13), (3, 14), (3, 16), (3, 17), (3, 18), (3, 19), (3, 20), (5, 2), (5, 3), (5, 4), (5, 5), (5, 6), (5, 7), (6, 3), (6, 4), (6, 6), (6, 7), (6, 8), (7, 6), (7, 9), (7, 10), (10, 0), (10, 1), (10, 2), (20, -5), (21, -5), (27, -5)] m tg F F96 := by rw [eF96]; exact Fq_p hM80 ho87.2 (fun w => (hX89.2 _ w).1) (inL_a rfl (by omega) rfl)
          have c99 : NP m72 tg72 F96 := by rw [eF96]; exact NP_u hC75 c92 ho87.2 (by omega)
          have c100 : SB m72 tg72 F96 (kk) := by rw [eF96]; exact SB_u c93 ho87.2 (by omega)
          refine jx_inc (pc_q := 110) (l_q := jSto1 L19 4 (.int (i32 (p + (1))))) (x := p) rfl g22 (by decide) rfl rfl ?_
          obtain ⟨L101, eL101⟩ : ∃ q : jL, q = jSto1 L19 4 (.int (i32 ((p + (1))))) := ⟨_, rfl⟩
          rw [← eL101]
          have g102 : jGet L101 0 = some (rv (me)) := eL101 ▸ jg_nr (by decide) g20
          have g103 : jGet L101 1 = some (rv (pr)) := eL101 ▸ jg_nr (by decide) g21
          have g104 : jGet L101 2 = some (rv (cd)) := eL101 ▸ jg_nr (by decide) g23
          have g105 : jGet L101 3 = some (rv (mc)) := eL101 ▸ jg_nr (by decide) g24
          have g106 : jGet L101 5 = some (rv (F (F (pr) (3 : Int)) (p))) := eL101 ▸ jg_nr (by decide) g25
          have g107 : jGet L101 4 = some (.int (i32 ((p + (1))))) := eL101 ▸ jg_eq
          clear eL101
          refine jx_go (tg := 34) rfl rfl ?_
          have q108 : F96 (me) (5 : Int) = Fx (me) (5 : Int) := (show F96 (me) (5 : Int) = Fx (me) (5 : Int) from by rw [(show F96 (me) (5 : Int) = F73 (me) (5 : Int) from by rw [eF96]; exact uF_a (fun w => by have q1 := ho81.2; have q2 := ho87.2; rw [w, q2] at q1; exact absurd q1 (by decide))), (show F73 (me) (5 : Int) = F49 (me) (5 : Int) from hM76 _ _ ho60.1 (fun w => by have q1 := ho60.2; rw [w, ho65.2] at q1; exact absurd q1 (by decide)) (by rw [ho60.2]; rfl)), (show F49 (me) (5 : Int) = F37 (me) (5 : Int) from hM53 _ _ ho38.1 (own_z ho38.1) (by rw [ho38.2]; rfl)), (show F37 (me) (5 : Int) = F28 (me) (5 : Int) from hf37 _ _ (ne_n ho1.1 en37)), (show F28 (me) (5 : Int) = Fx (me) (5 : Int) from hM30 _ _ ho1.1 (own_z ho1.1) (by rw [ho1.2]; rfl))])
          exact ih _ (by omega) L101 m72 tg72 ln72 F96 ((p + (1))) (cd) (mc) rfl g102 g103 g107 g104 g105 hX89 hC97 hM98 (by omega) (Or.inr ⟨ho83.1, ho83.2⟩) (Or.inr ⟨ho84.1, ho84.2⟩) (by omega) (by omega) (by omega) (by omega) (by omega) (own_z ho83.1) (own_z ho84.1) c99 (SB_m c100 (by omega)) c94
        · have _q := h35
          refine jx_ld (pc_q := 73) (l_q := L19) (st_q := [rv (pr)]) rfl (jl_rvn g21) ?_
          refine jx_ar (pc_q := 75) (st_q := [.int (i32 (6)), rv (pr)]) rfl rfl rfl rfl ?_
          refine jx_ar (pc_q := 76) (st_q := [.int (i32 (-1)), .int (i32 (6)), rv (pr)]) rfl rfl rfl rfl ?_
          refine jx_ar (pc_q := 77) (st_q := [.int (i32 (-1)), .int (i32 (-1)), .int (i32 (6)), rv (pr)]) rfl rfl rfl rfl ?_
          refine cx_vi (c := 9) (a := pr) (st := []) (as := [.int (i32 (6)), .int (i32 (-1)), .int (i32 (-1))]) rfl rfl rfl ho2.1 ho2.2 (by decide) rfl ⟨rfl, rfl, (Nat.le_of_ble_eq_true rfl)⟩ rfl (k_LProgram_blame (dd := d) (R := R) (m := mx) (tg := tgx) (ln := lnx) (F := F28) (me := pr) (k := 6) (l := -1) (p := -1) (hd := by omega) (hC := hC29) (o_me := ho2.1) (t_me := ho2.2) (h_k := by omega) (h_l := by omega) (h_p := by omega)) (fun o V_q hq => ?_)
          obtain ⟨F109, rfl, rfl, hC110, hM111, -⟩ := hq
          have hM112 : Fq 0 [(1, 5), (2, 7), (2, 8), (2, 9), (2, 10), (2, 11), (3, 5), (3, 6), (3, 7), (3, 8), (3, 9), (3, 10), (3, 11), (3, 12), (3, 13), (3, 14), (3, 16), (3, 17), (3, 18), (3, 19), (3, 20), (5, 2), (5, 3), (5, 4), (5, 5), (5, 6), (5, 7), (6, 3), (6, 4), (6, 6), (6, 7), (6, 8), (7, 6), (7, 9), (7, 10), (10, 0), (10, 1), (10, 2), (20, -5), (21, -5), (27, -5)] m tg F F109 := Fq_t (ln := ln) (ln1 := lnx) hM31 hXx hM111 (by decide) (Or.inl rfl)
          have c113 : NP mx tgx F109 := NP_q hC29 c32 hM111 rfl rfl
          have c114 : SB mx tgx F109 (kk) := SB_q c33 hM111 rfl
          refine Or.inl ⟨rfl, ?_⟩
          refine jx_ar (pc_q := 81) (st_q := .null :: []) rfl rfl rfl rfl ?_
          rw [← rv_0]
          refine jx_rt (v := some (rv (0))) rfl rfl rfl rfl rfl jr_are ?_
          have q115 : F109 (me) (5 : Int) = Fx (me) (5 : Int) := ((show F109 (me) (5 : Int) = F28 (me) (5 : Int) from hM111 _ _ ho1.1 (own_z ho1.1) (by rw [ho1.2]; rfl)).trans (show F28 (me) (5 : Int) = Fx (me) (5 : Int) from hM30 _ _ ho1.1 (own_z ho1.1) (by rw [ho1.2]; rfl)))
          exact ⟨mx, tgx, lnx, F109, (0), rfl, rfl, hXx, hC110, hM112, (Or.inl rfl), by omega, by omega, by omega, c113, SB_m c114 (by omega), cx_T3, trivial⟩
      · have _q := h26
        refine jx_go (tg := 107) rfl rfl ?_
        refine jx_inc (pc_q := 110) (l_q := jSto1 L19 4 (.int (i32 (p + (1))))) (x := p) rfl g22 (by decide) rfl rfl ?_
        obtain ⟨L116, eL116⟩ : ∃ q : jL, q = jSto1 L19 4 (.int (i32 ((p + (1))))) := ⟨_, rfl⟩
        rw [← eL116]
        have g117 : jGet L116 0 = some (rv (me)) := eL116 ▸ jg_nr (by decide) g20
        have g118 : jGet L116 1 = some (rv (pr)) := eL116 ▸ jg_nr (by decide) g21
        have g119 : jGet L116 2 = some (rv (cd)) := eL116 ▸ jg_nr (by decide) g23
        have g120 : jGet L116 3 = some (rv (mc)) := eL116 ▸ jg_nr (by decide) g24
        have g121 : jGet L116 5 = some (rv (F (F (pr) (3 : Int)) (p))) := eL116 ▸ jg_nr (by decide) g25
        have g122 : jGet L116 4 = some (.int (i32 ((p + (1))))) := eL116 ▸ jg_eq
        clear eL116
        refine jx_go (tg := 34) rfl rfl ?_
        exact ih _ (by omega) L116 mx tgx lnx Fx ((p + (1))) (cd) (mc) rfl g117 g118 g122 g119 g120 hXx hCx hMx (by omega) (Or.inr ⟨ho5.1, ho5.2⟩) (Or.inr ⟨ho7.1, ho7.2⟩) (by omega) (by omega) (by omega) (by omega) (by omega) (own_z ho5.1) (own_z ho7.1) cx_NP (SB_m cx_SB (by omega)) cx_T3
set_option maxRecDepth 20000 in
set_option maxHeartbeats 4000000 in
theorem k_LY_build {X : jX} {dd : Nat} {R : Nat → jC} {m : Nat} {tg ln : Int → Int} {F : Int → Int → Int} {kk : Int} {me pr : Int} (hd : 260 ≤ dd) (hC : HC 0 m tg ln F) (o_me : own m me) (t_me : tg me = 1) (o_pr : own m pr) (t_pr : tg pr = 10) (p_0 : 0 ≤ kk) (c_NP : NP m tg F) (c_SB : SB m tg F (kk)) (c_T3 : T3 m tg) : wk X dd 41 [rv me, rv pr] (cV R m tg ln F) (fun o V_q => ∃ (m_q : Nat) (tg_q ln_q : Int → Int) (F_q : Int → Int → Int) (r : Int), V_q = cV R m_q tg_q ln_q F_q ∧ o = .inl (some (rv r)) ∧ Ex m tg ln m_q tg_q ln_q ∧ HC 0 m_q tg_q ln_q F_q ∧ Fq 0 [(1, 5), (2, 7), (2, 8), (2, 9), (2, 10), (2, 11), (3, 5), (3, 6), (3, 7), (3, 8), (3, 9), (3, 10), (3, 11), (3, 12), (3, 13), (3, 14), (3, 16), (3, 17), (3, 18), (3, 19), (3, 20), (5, 2), (5, 3), (5, 4), (5, 5), (5, 6), (5, 7), (6, 3), (6, 4), (6, 6), (6, 7), (6, 8), (7, 6), (7, 9), (7, 10), (10, 0), (10, 1), (10, 2), (20, -5), (21, -5), (27, -5)] m tg F F_q ∧ (r = 0 ∨ (own m_q r ∧ tg_q r = 6)) ∧ (szD m_q tg_q ln_q ≤ szD m tg ln + 1234 + 42033 * (1 - tz (F me (5 : Int))) + 11051 * crt F (F pr (3 : Int))) ∧ ((m_q : Int) ≤ (m : Int) + 42) ∧ (F_q me (5 : Int) ≠ 0) ∧ (NP m_q tg_q F_q) ∧ (SB m_q tg_q F_q (kk + 1)) ∧ (T3 m_q tg_q) ∧ True) := by
  obtain ⟨d, rfl⟩ : ∃ d, dd = d + 1 := ⟨dd - 1, by omega⟩
  refine wk_of (e := jm41) rfl (by rw [jS_r, jS_r, jS_0]; exact Nat.le_of_ble_eq_true rfl) ?_
  rw [la_r, la_r, la_0]
  show wj X d jm41 (0, [(0, rv (me)), (1, rv (pr))], [], cV R m tg ln F) _
  have hM0 : Fq 0 [(1, 5), (2, 7), (2, 8), (2, 9), (2, 10), (2, 11), (3, 5), (3, 6), (3, 7), (3, 8), (3, 9), (3, 10), (3, 11), (3, 12), (3, 13), (3, 14), (3, 16), (3, 17), (3, 18), (3, 19), (3, 20), (5, 2), (5, 3), (5, 4), (5, 5), (5, 6), (5, 7), (6, 3), (6, 4), (6, 6), (6, 7), (6, 8), (7, 6), (7, 9), (7, 10), (10, 0), (10, 1), (10, 2), (20, -5), (21, -5), (27, -5)] m tg F F := Fq_r
  have hX0 : Ex m tg ln m tg ln := Ex_r
  obtain ⟨L0, eL0⟩ : ∃ q : jL, q = [(0, rv (me)), (1, rv (pr))] := ⟨_, rfl⟩
  rw [← eL0]
  have g123 : jGet L0 0 = some (rv (me)) := eL0 ▸ (rfl : jGet [(0, rv (me)), (1, rv (pr))] 0 = some (rv (me)))
  have g124 : jGet L0 1 = some (rv (pr)) := eL0 ▸ (rfl : jGet [(0, rv (me)), (1, rv (pr))] 1 = some (rv (pr)))
  clear eL0
  have k0 := crk_0 (F := F) (a := F pr (3 : Int))
  have t5 := tz_f (F me (5 : Int))
  refine jx_ld (pc_q := 1) (l_q := L0) (st_q := [rv (me)]) rfl (jl_rvn g123) ?_
  refine cx_gr (pc_q := 4) (c := 0) (q := 5) (v := F (me) (5 : Int)) rfl rfl (by decide) (by decide) rfl rfl o_me t_me rfl ?_
  have y125 : F (me) (5 : Int) = 0 ∨ (own m (F (me) (5 : Int)) ∧ tg (F (me) (5 : Int)) = 2) := by have z := HC_r (c := 0) (q := 5) hC o_me t_me (by decide) rfl; rw [show F (me) ((5 : Nat) : Int) = F (me) (5 : Int) from rfl] at z; exact z
  refine jx_ld (pc_q := 5) (l_q := jSto1 L0 2 (rv (F (me) (5 : Int)))) (st_q := []) rfl (js_rvn (by decide)) ?_
  obtain ⟨L126, eL126⟩ : ∃ q : jL, q = jSto1 L0 2 (rv (F (me) (5 : Int))) := ⟨_, rfl⟩
  rw [← eL126]
  have g127 : jGet L126 0 = some (rv (me)) := eL126 ▸ jg_nr (by decide) g123
  have g128 : jGet L126 1 = some (rv (pr)) := eL126 ▸ jg_nr (by decide) g124
  have g129 : jGet L126 2 = some (rv (F (me) (5 : Int))) := eL126 ▸ jg_eq
  clear eL126
  refine jx_ld (pc_q := 6) (l_q := L126) (st_q := [rv (F (me) (5 : Int))]) rfl (jl_rvn g129) ?_
  refine cx_non (pc_q := 9) (tg_q := 22) rfl rfl rfl (fun h130 => ?_) (fun h130 => ?_)
  · have _q := h130
    have ho131 : own m (F (me) (5 : Int)) ∧ tg (F (me) (5 : Int)) = 2 := y125.resolve_left h130
    refine cx_newc (pc_q := 25) (c := 5) rfl rfl (by decide) rfl rfl hC rfl (fun n132 m132 tg132 ln132 F132 en132 em132 ho132 hx132 hC132 hf132 h0132 hs132 => ?_)
    have ex132 : 64 + (m : Int) ≤ n132 := by have := hX0.1; omega
    have ho133 : own m132 (me) ∧ tg132 (me) = 1 := Ex_o hx132 ⟨o_me, t_me⟩
    have ho134 : own m132 (pr) ∧ tg132 (pr) = 10 := Ex_o hx132 ⟨o_pr, t_pr⟩
    have ho135 : own m132 (F (me) (5 : Int)) ∧ tg132 (F (me) (5 : Int)) = 2 := Ex_o hx132 ⟨ho131.1, ho131.2⟩
    have hX136 := Ex_t hX0 hx132
    have hM137 : Fq 0 [(1, 5), (2, 7), (2, 8), (2, 9), (2, 10), (2, 11), (3, 5), (3, 6), (3, 7), (3, 8), (3, 9), (3, 10), (3, 11), (3, 12), (3, 13), (3, 14), (3, 16), (3, 17), (3, 18), (3, 19), (3, 20), (5, 2), (5, 3), (5, 4), (5, 5), (5, 6), (5, 7), (6, 3), (6, 4), (6, 6), (6, 7), (6, 8), (7, 6), (7, 9), (7, 10), (10, 0), (10, 1), (10, 2), (20, -5), (21, -5), (27, -5)] m tg F F132 := Fq_n hM0 hf132 ex132
    have oe138 : OE m tg F F132 := OE_n OE_r (Nat.le_refl _) en132 hf132
    refine jx_ar (pc_q := 26) (st_q := [rv (n132), rv (n132)]) rfl rfl ja_dup rfl ?_
    refine jx_ld (pc_q := 27) (l_q := L126) (st_q := [rv (pr), rv (n132), rv (n132)]) rfl (jl_rvn g128) ?_
    refine cx_sp (kd := 2) (a := n132) (st := [rv (n132)]) (as := [rv (pr)]) rfl rfl (by decide) rfl ho132.1.1 ⟨rfl, (by rw [jS_r, jS_0]; exact Nat.le_of_ble_eq_true rfl)⟩ rfl (k_LMachine_init (dd := d) (R := R) (m := m132) (tg := tg132) (ln := ln132) (F := F132) (me := n132) (pr := pr) (hd := by omega) (hC := hC132) (o_me := ho132.1) (t_me := ho132.2) (o_pr := ho134.1) (t_pr := ho134.2) (z_me := h0132)) (fun o V_q hq => ?_)
    obtain ⟨m139, tg139, ln139, F140, rfl, rfl, hx141, hC142, hM143, p144, p145, p146, c147, -⟩ := hq
    have hM148 : Fq 0 [(1, 5), (2, 7), (2, 8), (2, 9), (2, 10), (2, 11), (3, 5), (3, 6), (3, 7), (3, 8), (3, 9), (3, 10), (3, 11), (3, 12), (3, 13), (3, 14), (3, 16), (3, 17), (3, 18), (3, 19), (3, 20), (5, 2), (5, 3), (5, 4), (5, 5), (5, 6), (5, 7), (6, 3), (6, 4), (6, 6), (6, 7), (6, 8), (7, 6), (7, 9), (7, 10), (10, 0), (10, 1), (10, 2), (20, -5), (21, -5), (27, -5)] m tg F F140 := Fq_t (ln := ln) (ln1 := ln132) hM137 hX136 hM143 (by decide) (Or.inr (Or.inr ex132))
    have ho149 : own m139 (me) ∧ tg139 (me) = 1 := Ex_o hx141 ⟨ho133.1, ho133.2⟩
    have ho150 : own m139 (pr) ∧ tg139 (pr) = 10 := Ex_o hx141 ⟨ho134.1, ho134.2⟩
    have ho151 : own m139 (F (me) (5 : Int)) ∧ tg139 (F (me) (5 : Int)) = 2 := Ex_o hx141 ⟨ho135.1, ho135.2⟩
    have ho152 : own m139 (n132) ∧ tg139 (n132) = 6 := Ex_o hx141 ⟨ho132.1, ho132.2⟩
    have hX153 := Ex_t hX136 hx141
    have oe154 := OE_q oe138 hx132 hM143 (Or.inr (by have := hx132.1; omega)) rfl
    have wn155 := WN (F_q := F140) hC.1 en132 em132 ho132.2 ho132.1 hx141 c147 (by decide)
    have c156 : NP m139 tg139 F140 := NP_v hC c_NP (Ex_t hx132 hx141) oe154 wn155
    have c157 : SB m139 tg139 F140 (kk) := SB_v c_SB (Ex_t hx132 hx141) oe154 wn155 ho152.2 (Or.inr (by omega))
    have c158 : T3 m139 tg139 := T3_v (F_q := F140) c_T3 (Ex_t hx132 hx141) en132 em132 ho132.2 ho132.1 hx141 c147 (by decide)
    refine Or.inl ⟨rfl, ?_⟩
    refine jx_ld (pc_q := 31) (l_q := jSto1 L126 3 (rv (n132))) (st_q := []) rfl (js_rvn (by decide)) ?_
    obtain ⟨L159, eL159⟩ : ∃ q : jL, q = jSto1 L126 3 (rv (n132)) := ⟨_, rfl⟩
    rw [← eL159]
    have g160 : jGet L159 0 = some (rv (me)) := eL159 ▸ jg_nr (by decide) g127
    have g161 : jGet L159 1 = some (rv (pr)) := eL159 ▸ jg_nr (by decide) g128
    have g162 : jGet L159 2 = some (rv (F (me) (5 : Int))) := eL159 ▸ jg_nr (by decide) g129
    have g163 : jGet L159 3 = some (rv (n132)) := eL159 ▸ jg_eq
    clear eL159
    refine jx_ar (pc_q := 32) (st_q := [.int (i32 (0))]) rfl rfl rfl rfl ?_
    refine jx_ld (pc_q := 34) (l_q := jSto1 L159 4 (.int (i32 (0)))) (st_q := []) rfl rfl ?_
    obtain ⟨L164, eL164⟩ : ∃ q : jL, q = jSto1 L159 4 (.int (i32 (0))) := ⟨_, rfl⟩
    rw [← eL164]
    have g165 : jGet L164 0 = some (rv (me)) := eL164 ▸ jg_nr (by decide) g160
    have g166 : jGet L164 1 = some (rv (pr)) := eL164 ▸ jg_nr (by decide) g161
    have g167 : jGet L164 2 = some (rv (F (me) (5 : Int))) := eL164 ▸ jg_nr (by decide) g162
    have g168 : jGet L164 3 = some (rv (n132)) := eL164 ▸ jg_nr (by decide) g163
    have g169 : jGet L164 4 = some (.int (i32 (0))) := eL164 ▸ jg_eq
    clear eL164
    have q170 : F140 (me) (5 : Int) = F (me) (5 : Int) := ((show F140 (me) (5 : Int) = F132 (me) (5 : Int) from hM143 _ _ ho133.1 (fun w => by have q1 := ho133.2; rw [w, ho132.2] at q1; exact absurd q1 (by decide)) (by rw [ho133.2]; rfl)).trans (show F132 (me) (5 : Int) = F (me) (5 : Int) from hf132 _ _ (ne_n o_me en132)))
    exact k_LY_build_at_34 (X := X) (d := d) (R := R) (m := m) (tg := tg) (ln := ln) (F := F) (kk := kk) (me := me) (pr := pr) (hd := hd) (hC := hC) (o_me := o_me) (t_me := t_me) (o_pr := o_pr) (t_pr := t_pr) (p_0 := p_0) (c_NP := c_NP) (c_SB := c_SB) (c_T3 := c_T3) _ L164 m139 tg139 ln139 F140 (0) (F (me) (5 : Int)) (n132) rfl g165 g166 g169 g167 g168 hX153 hC142 hM148 (by omega) (Or.inr ⟨ho151.1, ho151.2⟩) (Or.inr ⟨ho152.1, ho152.2⟩) (by omega) (by omega) (by omega) (by omega) (by omega) (own_z ho151.1) (own_z ho152.1) c156 (SB_m c157 (by omega)) c158
  · have _q := h130
    refine cx_newc (pc_q := 12) (c := 1) rfl rfl (by decide) rfl rfl hC rfl (fun n171 m171 tg171 ln171 F171 en171 em171 ho171 hx171 hC171 hf171 h0171 hs171 => ?_)
    have ex171 : 64 + (m : Int) ≤ n171 := by have := hX0.1; omega
    have ho172 : own m171 (me) ∧ tg171 (me) = 1 := Ex_o hx171 ⟨o_me, t_me⟩
    have ho173 : own m171 (pr) ∧ tg171 (pr) = 10 := Ex_o hx171 ⟨o_pr, t_pr⟩
    have y174 : F (me) (5 : Int) = 0 ∨ (own m171 (F (me) (5 : Int)) ∧ tg171 (F (me) (5 : Int)) = 2) := Ex_z hx171 y125
    have hX175 := Ex_t hX0 hx171
    have hM176 : Fq 0 [(1, 5), (2, 7), (2, 8), (2, 9), (2, 10), (2, 11), (3, 5), (3, 6), (3, 7), (3, 8), (3, 9), (3, 10), (3, 11), (3, 12), (3, 13), (3, 14), (3, 16), (3, 17), (3, 18), (3, 19), (3, 20), (5, 2), (5, 3), (5, 4), (5, 5), (5, 6), (5, 7), (6, 3), (6, 4), (6, 6), (6, 7), (6, 8), (7, 6), (7, 9), (7, 10), (10, 0), (10, 1), (10, 2), (20, -5), (21, -5), (27, -5)] m tg F F171 := Fq_n hM0 hf171 ex171
    have oe177 : OE m tg F F171 := OE_n OE_r (Nat.le_refl _) en171 hf171
    refine jx_ar (pc_q := 13) (st_q := [rv (n171), rv (n171)]) rfl rfl ja_dup rfl ?_
    refine cx_sp (kd := 3) (a := n171) (st := [rv (n171)]) (as := []) rfl rfl (by decide) rfl ho171.1.1 ⟨rfl, (by rw [jS_r, jS_0]; exact Nat.le_of_ble_eq_true rfl)⟩ rfl (k_LCoder_init (dd := d) (R := R) (m := m171) (tg := tg171) (ln := ln171) (F := F171) (me := n171) (hd := by omega) (hC := hC171) (o_me := ho171.1) (t_me := ho171.2) (z_me := h0171)) (fun o V_q hq => ?_)
    obtain ⟨m178, tg178, ln178, F179, rfl, rfl, hx180, hC181, hM182, p183, p184, c185, -⟩ := hq
    have hM186 : Fq 0 [(1, 5), (2, 7), (2, 8), (2, 9), (2, 10), (2, 11), (3, 5), (3, 6), (3, 7), (3, 8), (3, 9), (3, 10), (3, 11), (3, 12), (3, 13), (3, 14), (3, 16), (3, 17), (3, 18), (3, 19), (3, 20), (5, 2), (5, 3), (5, 4), (5, 5), (5, 6), (5, 7), (6, 3), (6, 4), (6, 6), (6, 7), (6, 8), (7, 6), (7, 9), (7, 10), (10, 0), (10, 1), (10, 2), (20, -5), (21, -5), (27, -5)] m tg F F179 := Fq_t (ln := ln) (ln1 := ln171) hM176 hX175 hM182 (by decide) (Or.inr (Or.inr ex171))
    have ho187 : own m178 (me) ∧ tg178 (me) = 1 := Ex_o hx180 ⟨ho172.1, ho172.2⟩
    have ho188 : own m178 (pr) ∧ tg178 (pr) = 10 := Ex_o hx180 ⟨ho173.1, ho173.2⟩
    have y189 : F (me) (5 : Int) = 0 ∨ (own m178 (F (me) (5 : Int)) ∧ tg178 (F (me) (5 : Int)) = 2) := Ex_z hx180 y174
    have ho190 : own m178 (n171) ∧ tg178 (n171) = 2 := Ex_o hx180 ⟨ho171.1, ho171.2⟩
    have hX191 := Ex_t hX175 hx180
    have oe192 := OE_q oe177 hx171 hM182 (Or.inr (by have := hx171.1; omega)) rfl
    have wn193 := WN (F_q := F179) hC.1 en171 em171 ho171.2 ho171.1 hx180 c185 (by decide)
    have c194 : NP m178 tg178 F179 := NP_v hC c_NP (Ex_t hx171 hx180) oe192 wn193
    have c195 : SB m178 tg178 F179 (kk) := SB_v c_SB (Ex_t hx171 hx180) oe192 wn193 ho190.2 (Or.inl (by decide))
    have c196 : T3 m178 tg178 := T3_v (F_q := F179) c_T3 (Ex_t hx171 hx180) en171 em171 ho171.2 ho171.1 hx180 c185 (by decide)
    refine Or.inl ⟨rfl, ?_⟩
    refine jx_ld (pc_q := 17) (l_q := jSto1 L126 2 (rv (n171))) (st_q := []) rfl (js_rvn (by decide)) ?_
    obtain ⟨L197, eL197⟩ : ∃ q : jL, q = jSto1 L126 2 (rv (n171)) := ⟨_, rfl⟩
    rw [← eL197]
    have g198 : jGet L197 0 = some (rv (me)) := eL197 ▸ jg_nr (by decide) g127
    have g199 : jGet L197 1 = some (rv (pr)) := eL197 ▸ jg_nr (by decide) g128
    have g200 : jGet L197 2 = some (rv (n171)) := eL197 ▸ jg_eq
    clear eL197
    refine jx_ld (pc_q := 18) (l_q := L197) (st_q := [rv (me)]) rfl (jl_rvn g198) ?_
    refine jx_ld (pc_q := 19) (l_q := L197) (st_q := [rv (n171), rv (me)]) rfl (jl_rvn g200) ?_
    refine cx_po (pc_q := 22) (c := 0) (q := 5) (qi := (5 : Int)) (z := n171) rfl rfl (by decide) (by decide) rfl rfl rfl (by decide) rfl ho187.1 ho187.2 rfl ?_
    obtain ⟨F201, eF201⟩ : ∃ q, q = uF F179 (me) (5 : Int) (n171) := ⟨_, rfl⟩
    rw [← eF201]
    have hC202 : HC 0 m178 tg178 ln178 F201 := by rw [eF201]; exact HC_fr (c := 0) (q := 5) (by decide) hC181 ho187.2 (by decide) rfl (Or.inr ⟨ho190.1, ho190.2⟩) ⟨fun w => absurd w (by decide), fun w => absurd w (by decide)⟩
    have hM203 : Fq 0 [(1, 5), (2, 7), (2, 8), (2, 9), (2, 10), (2, 11), (3, 5), (3, 6), (3, 7), (3, 8), (3, 9), (3, 10), (3, 11), (3, 12), (3, 13), (3, 14), (3, 16), (3, 17), (3, 18), (3, 19), (3, 20), (5, 2), (5, 3), (5, 4), (5, 5), (5, 6), (5, 7), (6, 3), (6, 4), (6, 6), (6, 7), (6, 8), (7, 6), (7, 9), (7, 10), (10, 0), (10, 1), (10, 2), (20, -5), (21, -5), (27, -5)] m tg F F201 := by rw [eF201]; exact Fq_p hM186 ho187.2 (fun w => (hX191.2 _ w).1) rfl
    have c204 : NP m178 tg178 F201 := by rw [eF201]; exact NP_u hC181 c194 ho187.2 (by omega)
    have c205 : SB m178 tg178 F201 (kk) := by rw [eF201]; exact SB_u c195 ho187.2 (by omega)
    refine cx_newc (pc_q := 25) (c := 5) rfl rfl (by decide) rfl rfl hC202 rfl (fun n206 m206 tg206 ln206 F206 en206 em206 ho206 hx206 hC206 hf206 h0206 hs206 => ?_)
    have ex206 : 64 + (m : Int) ≤ n206 := by have := hX191.1; omega
    have ho207 : own m206 (me) ∧ tg206 (me) = 1 := Ex_o hx206 ⟨ho187.1, ho187.2⟩
    have ho208 : own m206 (pr) ∧ tg206 (pr) = 10 := Ex_o hx206 ⟨ho188.1, ho188.2⟩
    have ho209 : own m206 (n171) ∧ tg206 (n171) = 2 := Ex_o hx206 ⟨ho190.1, ho190.2⟩
    have hX210 := Ex_t hX191 hx206
    have hM211 : Fq 0 [(1, 5), (2, 7), (2, 8), (2, 9), (2, 10), (2, 11), (3, 5), (3, 6), (3, 7), (3, 8), (3, 9), (3, 10), (3, 11), (3, 12), (3, 13), (3, 14), (3, 16), (3, 17), (3, 18), (3, 19), (3, 20), (5, 2), (5, 3), (5, 4), (5, 5), (5, 6), (5, 7), (6, 3), (6, 4), (6, 6), (6, 7), (6, 8), (7, 6), (7, 9), (7, 10), (10, 0), (10, 1), (10, 2), (20, -5), (21, -5), (27, -5)] m tg F F206 := Fq_n hM203 hf206 ex206
    have oe212 : OE m178 tg178 F201 F206 := OE_n OE_r (Nat.le_refl _) en206 hf206
    refine jx_ar (pc_q := 26) (st_q := [rv (n206), rv (n206)]) rfl rfl ja_dup rfl ?_
    refine jx_ld (pc_q := 27) (l_q := L197) (st_q := [rv (pr), rv (n206), rv (n206)]) rfl (jl_rvn g199) ?_
    refine cx_sp (kd := 2) (a := n206) (st := [rv (n206)]) (as := [rv (pr)]) rfl rfl (by decide) rfl ho206.1.1 ⟨rfl, (by rw [jS_r, jS_0]; exact Nat.le_of_ble_eq_true rfl)⟩ rfl (k_LMachine_init (dd := d) (R := R) (m := m206) (tg := tg206) (ln := ln206) (F := F206) (me := n206) (pr := pr) (hd := by omega) (hC := hC206) (o_me := ho206.1) (t_me := ho206.2) (o_pr := ho208.1) (t_pr := ho208.2) (z_me := h0206)) (fun o V_q hq => ?_)
    obtain ⟨m213, tg213, ln213, F214, rfl, rfl, hx215, hC216, hM217, p218, p219, p220, c221, -⟩ := hq
    have hM222 : Fq 0 [(1, 5), (2, 7), (2, 8), (2, 9), (2, 10), (2, 11), (3, 5), (3, 6), (3, 7), (3, 8), (3, 9), (3, 10), (3, 11), (3, 12), (3, 13), (3, 14), (3, 16), (3, 17), (3, 18), (3, 19), (3, 20), (5, 2), (5, 3), (5, 4), (5, 5), (5, 6), (5, 7), (6, 3), (6, 4), (6, 6), (6, 7), (6, 8), (7, 6), (7, 9), (7, 10), (10, 0), (10, 1), (10, 2), (20, -5), (21, -5), (27, -5)] m tg F F214 := Fq_t (ln := ln) (ln1 := ln206) hM211 hX210 hM217 (by decide) (Or.inr (Or.inr ex206))
    have ho223 : own m213 (me) ∧ tg213 (me) = 1 := Ex_o hx215 ⟨ho207.1, ho207.2⟩
    have ho224 : own m213 (pr) ∧ tg213 (pr) = 10 := Ex_o hx215 ⟨ho208.1, ho208.2⟩
    have ho225 : own m213 (n171) ∧ tg213 (n171) = 2 := Ex_o hx215 ⟨ho209.1, ho209.2⟩
    have ho226 : own m213 (n206) ∧ tg213 (n206) = 6 := Ex_o hx215 ⟨ho206.1, ho206.2⟩
    have hX227 := Ex_t hX210 hx215
    have oe228 := OE_q oe212 hx206 hM217 (Or.inr (by have := hx206.1; omega)) rfl
    have wn229 := WN (F_q := F214) hC202.1 en206 em206 ho206.2 ho206.1 hx215 c221 (by decide)
    have c230 : NP m213 tg213 F214 := NP_v hC202 c204 (Ex_t hx206 hx215) oe228 wn229
    have c231 : SB m213 tg213 F214 (kk) := SB_v c205 (Ex_t hx206 hx215) oe228 wn229 ho226.2 (Or.inr (by omega))
    have c232 : T3 m213 tg213 := T3_v (F_q := F214) c196 (Ex_t hx206 hx215) en206 em206 ho206.2 ho206.1 hx215 c221 (by decide)
    refine Or.inl ⟨rfl, ?_⟩
    refine jx_ld (pc_q := 31) (l_q := jSto1 L197 3 (rv (n206))) (st_q := []) rfl (js_rvn (by decide)) ?_
    obtain ⟨L233, eL233⟩ : ∃ q : jL, q = jSto1 L197 3 (rv (n206)) := ⟨_, rfl⟩
    rw [← eL233]
    have g234 : jGet L233 0 = some (rv (me)) := eL233 ▸ jg_nr (by decide) g198
    have g235 : jGet L233 1 = some (rv (pr)) := eL233 ▸ jg_nr (by decide) g199
    have g236 : jGet L233 2 = some (rv (n171)) := eL233 ▸ jg_nr (by decide) g200
    have g237 : jGet L233 3 = some (rv (n206)) := eL233 ▸ jg_eq
    clear eL233
    refine jx_ar (pc_q := 32) (st_q := [.int (i32 (0))]) rfl rfl rfl rfl ?_
    refine jx_ld (pc_q := 34) (l_q := jSto1 L233 4 (.int (i32 (0)))) (st_q := []) rfl rfl ?_
    obtain ⟨L238, eL238⟩ : ∃ q : jL, q = jSto1 L233 4 (.int (i32 (0))) := ⟨_, rfl⟩
    rw [← eL238]
    have g239 : jGet L238 0 = some (rv (me)) := eL238 ▸ jg_nr (by decide) g234
    have g240 : jGet L238 1 = some (rv (pr)) := eL238 ▸ jg_nr (by decide) g235
    have g241 : jGet L238 2 = some (rv (n171)) := eL238 ▸ jg_nr (by decide) g236
    have g242 : jGet L238 3 = some (rv (n206)) := eL238 ▸ jg_nr (by decide) g237
    have g243 : jGet L238 4 = some (.int (i32 (0))) := eL238 ▸ jg_eq
    clear eL238
    have q244 : F214 (me) (5 : Int) = n171 := ((show F214 (me) (5 : Int) = F206 (me) (5 : Int) from hM217 _ _ ho207.1 (fun w => by have q1 := ho207.2; rw [w, ho206.2] at q1; exact absurd q1 (by decide)) (by rw [ho207.2]; rfl)).trans ((show F206 (me) (5 : Int) = F201 (me) (5 : Int) from hf206 _ _ (ne_n ho187.1 en206)).trans (show F201 (me) (5 : Int) = n171 from by rw [eF201]; exact uF_e)))
    exact k_LY_build_at_34 (X := X) (d := d) (R := R) (m := m) (tg := tg) (ln := ln) (F := F) (kk := kk) (me := me) (pr := pr) (hd := hd) (hC := hC) (o_me := o_me) (t_me := t_me) (o_pr := o_pr) (t_pr := t_pr) (p_0 := p_0) (c_NP := c_NP) (c_SB := c_SB) (c_T3 := c_T3) _ L238 m213 tg213 ln213 F214 (0) (n171) (n206) rfl g239 g240 g243 g241 g242 hX227 hC216 hM222 (by omega) (Or.inr ⟨ho225.1, ho225.2⟩) (Or.inr ⟨ho226.1, ho226.2⟩) (by omega) (by omega) (by omega) (by omega) (by omega) (own_z ho225.1) (own_z ho226.1) c230 (SB_m c231 (by omega)) c232
