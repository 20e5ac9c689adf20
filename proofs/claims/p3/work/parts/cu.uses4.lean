set_option maxRecDepth 20000 in
set_option maxHeartbeats 4000000 in
theorem k_LUses_againstOthers_at_15 {X : jX} {kk : Nat} {d : Nat} {R : Nat → jC} {m : Nat} {tg ln : Int → Int} {F : Int → Int → Int} {me cl ag pm : Int} (hd : 3 * kk + 8 ≤ d + 1) (hC : HC 0 m tg ln F) (o_me : own m me) (t_me : tg me = 12) (o_cl : own m cl) (t_cl : tg cl = 8) (o_ag : own m ag) (t_ag : tg ag = 8) (o_pm : own m pm) (t_pm : tg pm = 7) (p_0 : F cl (3 : Int) ≠ 0) (p_1 : F ag (3 : Int) ≠ 0) (c_NT : NT m tg F) (n_cl : SN m tg F cl (kk)) : ∀ (mm : Nat) (L : jL) (Fx : Int → Int → Int) (ot ah : Int), (mz m ah).toNat = mm → jGet L 0 = some (rv (me)) → jGet L 1 = some (rv (cl)) → jGet L 2 = some (rv (ag)) → jGet L 3 = some (rv (pm)) → jGet L 4 = some (rv ot) → jGet L 5 = some (rv ah) → HC 0 m tg ln Fx → Fq 0 [(12, 4)] m tg F Fx → (ot = 0 ∨ (own m ot ∧ tg ot = 7)) → (ah = 0 ∨ (own m ah ∧ tg ah = 8)) → (SN m tg F ah (kk - 1)) → wj X d jm235 (15, L, [], cV R m tg ln Fx) (fun o V_q => ∃ (F_q : Int → Int → Int), V_q = cV R m tg ln F_q ∧ o = .inl none ∧ HC 0 m tg ln F_q ∧ Fq 0 [(12, 4)] m tg F F_q ∧ True) := by
  intro mm
  induction mm using Nat.strongRecOn with
  | ind mm ih =>
    intro L Fx ot ah hmm gL_0 gL_1 gL_2 gL_3 gL_4 gL_5 hCx hMx yx_ot yx_ah sx_ah
    have k1 := SN_p n_cl (own_z o_cl)
    refine jx_ld (pc_q := 17) (l_q := L) (st_q := [rv (ah)]) rfl (jl_rv gL_5) ?_
    refine cx_nul (pc_q := 20) (tg_q := 124) rfl rfl rfl (fun h2 => ?_) (fun h2 => ?_)
    · have _q := h2
      refine jx_rt (v := none) rfl rfl rfl rfl rfl rfl ?_
      exact ⟨Fx, rfl, rfl, hCx, hMx, trivial⟩
    · have _q := h2
      have ho3 : own m (ah) ∧ tg (ah) = 8 := yx_ah.resolve_left h2
      have k4 := SN_p sx_ah h2
      refine jx_ld (pc_q := 22) (l_q := L) (st_q := [rv (ah)]) rfl (jl_rv gL_5) ?_
      refine jx_ld (pc_q := 23) (l_q := L) (st_q := [rv (ag), rv (ah)]) rfl (jl_rvn gL_2) ?_
      refine cx_aeq (pc_q := 26) (tg_q := 124) rfl rfl rfl (Or.inr o_ag.1) (Or.inr ho3.1.1) (fun h5 => ?_) (fun h5 => ?_)
      · have _q := h5
        refine jx_rt (v := none) rfl rfl rfl rfl rfl rfl ?_
        exact ⟨Fx, rfl, rfl, hCx, hMx, trivial⟩
      · have _q := h5
        refine jx_ld (pc_q := 28) (l_q := L) (st_q := [rv (ot)]) rfl (jl_rv gL_4) ?_
        refine cx_nul (pc_q := 31) (tg_q := 124) rfl rfl rfl (fun h6 => ?_) (fun h6 => ?_)
        · have _q := h6
          refine jx_rt (v := none) rfl rfl rfl rfl rfl rfl ?_
          exact ⟨Fx, rfl, rfl, hCx, hMx, trivial⟩
        · have _q := h6
          have ho7 : own m (ot) ∧ tg (ot) = 7 := yx_ot.resolve_left h6
          refine jx_ld (pc_q := 33) (l_q := L) (st_q := [rv (ot)]) rfl (jl_rv gL_4) ?_
          refine cx_gi (pc_q := 36) (c := 6) (q := 0) (v := F (ot) (0 : Int)) rfl rfl (by decide) (by decide) (Or.inl rfl) rfl ho7.1 ho7.2 (show Fx (ot) (0 : Int) = F (ot) (0 : Int) from hMx _ _ ho7.1 (own_z ho7.1) (by rw [ho7.2]; rfl)) ?_
          have b8 : (-2147483648 : Int) ≤ F (ot) (0 : Int) ∧ F (ot) (0 : Int) ≤ 2147483647 := by have z := HC_i (c := 6) (q := 0) hCx ho7.1 ho7.2 (by decide) rfl; rw [show Fx (ot) ((0 : Nat) : Int) = F (ot) (0 : Int) from (show Fx (ot) (0 : Int) = F (ot) (0 : Int) from hMx _ _ ho7.1 (own_z ho7.1) (by rw [ho7.2]; rfl))] at z; exact z
          refine jx_ar (pc_q := 37) (st_q := [.int (i32 (1)), .int (i32 (F (ot) (0 : Int)))]) rfl rfl rfl rfl ?_
          refine jx_icmp_eq (pc_q := 40) (tg := 66) rfl rfl rfl (by omega) (by omega) (by decide) (by decide) (fun h9 => ?_) (fun h9 => ?_)
          · have _q := h9
            refine jx_ar (pc_q := 67) (st_q := [.int (i32 (0))]) rfl rfl rfl rfl ?_
            refine jx_ld (pc_q := 69) (l_q := jSto1 L 6 (.int (i32 (0)))) (st_q := []) rfl rfl ?_
            obtain ⟨L10, eL10⟩ : ∃ q : jL, q = jSto1 L 6 (.int (i32 (0))) := ⟨_, rfl⟩
            rw [← eL10]
            have g11 : jGet L10 0 = some (rv (me)) := eL10 ▸ jg_nr (by decide) gL_0
            have g12 : jGet L10 1 = some (rv (cl)) := eL10 ▸ jg_nr (by decide) gL_1
            have g13 : jGet L10 2 = some (rv (ag)) := eL10 ▸ jg_nr (by decide) gL_2
            have g14 : jGet L10 3 = some (rv (pm)) := eL10 ▸ jg_nr (by decide) gL_3
            have g15 : jGet L10 4 = some (rv (ot)) := eL10 ▸ jg_nr (by decide) gL_4
            have g16 : jGet L10 5 = some (rv (ah)) := eL10 ▸ jg_nr (by decide) gL_5
            have g17 : jGet L10 6 = some (.int (i32 (0))) := eL10 ▸ jg_eq
            clear eL10
            refine jx_ld (pc_q := 71) (l_q := L10) (st_q := [.int (i32 (0))]) rfl (jl_iload g17) ?_
            refine jx_if_eq (pc_q := 74) (tg := 107) rfl rfl rfl (by decide) (by decide) (fun h18 => ?_) (fun h18 => ?_)
            · have _q := h18
              refine jx_ld (pc_q := 109) (l_q := L10) (st_q := [rv (ot)]) rfl (jl_rv g15) ?_
              refine cx_gr (pc_q := 112) (c := 6) (q := 14) (v := F (ot) (14 : Int)) rfl rfl (by decide) (by decide) rfl rfl ho7.1 ho7.2 (show Fx (ot) (14 : Int) = F (ot) (14 : Int) from hMx _ _ ho7.1 (own_z ho7.1) (by rw [ho7.2]; rfl)) ?_
              have y19 : F (ot) (14 : Int) = 0 ∨ (own m (F (ot) (14 : Int)) ∧ tg (F (ot) (14 : Int)) = 7) := by have z := HC_r (c := 6) (q := 14) hCx ho7.1 ho7.2 (by decide) rfl; rw [show Fx (ot) ((14 : Nat) : Int) = F (ot) (14 : Int) from (show Fx (ot) (14 : Int) = F (ot) (14 : Int) from hMx _ _ ho7.1 (own_z ho7.1) (by rw [ho7.2]; rfl))] at z; exact z
              have z20 := mz_a hC c_NT ho7.1 ho7.2
              refine jx_ld (pc_q := 114) (l_q := jSto1 L10 4 (rv (F (ot) (14 : Int)))) (st_q := []) rfl (js_rv (by decide)) ?_
              obtain ⟨L21, eL21⟩ : ∃ q : jL, q = jSto1 L10 4 (rv (F (ot) (14 : Int))) := ⟨_, rfl⟩
              rw [← eL21]
              have g22 : jGet L21 0 = some (rv (me)) := eL21 ▸ jg_nr (by decide) g11
              have g23 : jGet L21 1 = some (rv (cl)) := eL21 ▸ jg_nr (by decide) g12
              have g24 : jGet L21 2 = some (rv (ag)) := eL21 ▸ jg_nr (by decide) g13
              have g25 : jGet L21 3 = some (rv (pm)) := eL21 ▸ jg_nr (by decide) g14
              have g26 : jGet L21 5 = some (rv (ah)) := eL21 ▸ jg_nr (by decide) g16
              have g27 : jGet L21 6 = some (.int (i32 (0))) := eL21 ▸ jg_ne (by decide) g17 rfl
              have g28 : jGet L21 4 = some (rv (F (ot) (14 : Int))) := eL21 ▸ jg_eq
              clear eL21
              refine jx_ld (pc_q := 116) (l_q := L21) (st_q := [rv (ah)]) rfl (jl_rv g26) ?_
              refine cx_gr (pc_q := 119) (c := 7) (q := 8) (v := F (ah) (8 : Int)) rfl rfl (by decide) (by decide) rfl rfl ho3.1 ho3.2 (show Fx (ah) (8 : Int) = F (ah) (8 : Int) from hMx _ _ ho3.1 (own_z ho3.1) (by rw [ho3.2]; rfl)) ?_
              have y29 : F (ah) (8 : Int) = 0 ∨ (own m (F (ah) (8 : Int)) ∧ tg (F (ah) (8 : Int)) = 8) := by have z := HC_r (c := 7) (q := 8) hCx ho3.1 ho3.2 (by decide) rfl; rw [show Fx (ah) ((8 : Nat) : Int) = F (ah) (8 : Int) from (show Fx (ah) (8 : Int) = F (ah) (8 : Int) from hMx _ _ ho3.1 (own_z ho3.1) (by rw [ho3.2]; rfl))] at z; exact z
              have z30 := mz_n hC c_NT sx_ah (own_z ho3.1)
              refine jx_ld (pc_q := 121) (l_q := jSto1 L21 5 (rv (F (ah) (8 : Int)))) (st_q := []) rfl (js_rv (by decide)) ?_
              obtain ⟨L31, eL31⟩ : ∃ q : jL, q = jSto1 L21 5 (rv (F (ah) (8 : Int))) := ⟨_, rfl⟩
              rw [← eL31]
              have g32 : jGet L31 0 = some (rv (me)) := eL31 ▸ jg_nr (by decide) g22
              have g33 : jGet L31 1 = some (rv (cl)) := eL31 ▸ jg_nr (by decide) g23
              have g34 : jGet L31 2 = some (rv (ag)) := eL31 ▸ jg_nr (by decide) g24
              have g35 : jGet L31 3 = some (rv (pm)) := eL31 ▸ jg_nr (by decide) g25
              have g36 : jGet L31 6 = some (.int (i32 (0))) := eL31 ▸ jg_ne (by decide) g27 rfl
              have g37 : jGet L31 4 = some (rv (F (ot) (14 : Int))) := eL31 ▸ jg_nr (by decide) g28
              have g38 : jGet L31 5 = some (rv (F (ah) (8 : Int))) := eL31 ▸ jg_eq
              clear eL31
              refine jx_go (tg := 15) rfl rfl ?_
              exact ih _ (by omega) L31 Fx (F (ot) (14 : Int)) (F (ah) (8 : Int)) rfl g32 g33 g34 g35 g37 g38 hCx hMx y19 y29 (SN_w (SN_n hC c_NT sx_ah (own_z ho3.1)) (by omega))
            · have _q := h18
              exact absurd h18 (by omega)
          · have _q := h9
            refine jx_ld (pc_q := 42) (l_q := L) (st_q := [rv (ah)]) rfl (jl_rv gL_5) ?_
            refine cx_gr (pc_q := 45) (c := 7) (q := 3) (v := F (ah) (3 : Int)) rfl rfl (by decide) (by decide) rfl rfl ho3.1 ho3.2 (show Fx (ah) (3 : Int) = F (ah) (3 : Int) from hMx _ _ ho3.1 (own_z ho3.1) (by rw [ho3.2]; rfl)) ?_
            have y39 : F (ah) (3 : Int) = 0 ∨ (own m (F (ah) (3 : Int)) ∧ tg (F (ah) (3 : Int)) = 7) := by have z := HC_r (c := 7) (q := 3) hCx ho3.1 ho3.2 (by decide) rfl; rw [show Fx (ah) ((3 : Nat) : Int) = F (ah) (3 : Int) from (show Fx (ah) (3 : Int) = F (ah) (3 : Int) from hMx _ _ ho3.1 (own_z ho3.1) (by rw [ho3.2]; rfl))] at z; exact z
            refine jx_ld (pc_q := 46) (l_q := L) (st_q := [rv (ag), rv (F (ah) (3 : Int))]) rfl (jl_rvn gL_2) ?_
            refine cx_gr (pc_q := 49) (c := 7) (q := 3) (v := F (ag) (3 : Int)) rfl rfl (by decide) (by decide) rfl rfl o_ag t_ag (show Fx (ag) (3 : Int) = F (ag) (3 : Int) from hMx _ _ o_ag (own_z o_ag) (by rw [t_ag]; rfl)) ?_
            have y40 : F (ag) (3 : Int) = 0 ∨ (own m (F (ag) (3 : Int)) ∧ tg (F (ag) (3 : Int)) = 7) := by have z := HC_r (c := 7) (q := 3) hCx o_ag t_ag (by decide) rfl; rw [show Fx (ag) ((3 : Nat) : Int) = F (ag) (3 : Int) from (show Fx (ag) (3 : Int) = F (ag) (3 : Int) from hMx _ _ o_ag (own_z o_ag) (by rw [t_ag]; rfl))] at z; exact z
            refine cx_ane (pc_q := 52) (tg_q := 66) rfl rfl rfl (y40.imp_right (fun h => h.1.1)) (y39.imp_right (fun h => h.1.1)) (fun h41 => ?_) (fun h41 => ?_)
            · have _q := h41
              refine jx_ar (pc_q := 67) (st_q := [.int (i32 (0))]) rfl rfl rfl rfl ?_
              refine jx_ld (pc_q := 69) (l_q := jSto1 L 6 (.int (i32 (0)))) (st_q := []) rfl rfl ?_
              obtain ⟨L42, eL42⟩ : ∃ q : jL, q = jSto1 L 6 (.int (i32 (0))) := ⟨_, rfl⟩
              rw [← eL42]
              have g43 : jGet L42 0 = some (rv (me)) := eL42 ▸ jg_nr (by decide) gL_0
              have g44 : jGet L42 1 = some (rv (cl)) := eL42 ▸ jg_nr (by decide) gL_1
              have g45 : jGet L42 2 = some (rv (ag)) := eL42 ▸ jg_nr (by decide) gL_2
              have g46 : jGet L42 3 = some (rv (pm)) := eL42 ▸ jg_nr (by decide) gL_3
              have g47 : jGet L42 4 = some (rv (ot)) := eL42 ▸ jg_nr (by decide) gL_4
              have g48 : jGet L42 5 = some (rv (ah)) := eL42 ▸ jg_nr (by decide) gL_5
              have g49 : jGet L42 6 = some (.int (i32 (0))) := eL42 ▸ jg_eq
              clear eL42
              refine jx_ld (pc_q := 71) (l_q := L42) (st_q := [.int (i32 (0))]) rfl (jl_iload g49) ?_
              refine jx_if_eq (pc_q := 74) (tg := 107) rfl rfl rfl (by decide) (by decide) (fun h50 => ?_) (fun h50 => ?_)
              · have _q := h50
                refine jx_ld (pc_q := 109) (l_q := L42) (st_q := [rv (ot)]) rfl (jl_rv g47) ?_
                refine cx_gr (pc_q := 112) (c := 6) (q := 14) (v := F (ot) (14 : Int)) rfl rfl (by decide) (by decide) rfl rfl ho7.1 ho7.2 (show Fx (ot) (14 : Int) = F (ot) (14 : Int) from hMx _ _ ho7.1 (own_z ho7.1) (by rw [ho7.2]; rfl)) ?_
                have y51 : F (ot) (14 : Int) = 0 ∨ (own m (F (ot) (14 : Int)) ∧ tg (F (ot) (14 : Int)) = 7) := by have z := HC_r (c := 6) (q := 14) hCx ho7.1 ho7.2 (by decide) rfl; rw [show Fx (ot) ((14 : Nat) : Int) = F (ot) (14 : Int) from (show Fx (ot) (14 : Int) = F (ot) (14 : Int) from hMx _ _ ho7.1 (own_z ho7.1) (by rw [ho7.2]; rfl))] at z; exact z
                have z52 := mz_a hC c_NT ho7.1 ho7.2
                refine jx_ld (pc_q := 114) (l_q := jSto1 L42 4 (rv (F (ot) (14 : Int)))) (st_q := []) rfl (js_rv (by decide)) ?_
                obtain ⟨L53, eL53⟩ : ∃ q : jL, q = jSto1 L42 4 (rv (F (ot) (14 : Int))) := ⟨_, rfl⟩
                rw [← eL53]
                have g54 : jGet L53 0 = some (rv (me)) := eL53 ▸ jg_nr (by decide) g43
                have g55 : jGet L53 1 = some (rv (cl)) := eL53 ▸ jg_nr (by decide) g44
                have g56 : jGet L53 2 = some (rv (ag)) := eL53 ▸ jg_nr (by decide) g45
                have g57 : jGet L53 3 = some (rv (pm)) := eL53 ▸ jg_nr (by decide) g46
                have g58 : jGet L53 5 = some (rv (ah)) := eL53 ▸ jg_nr (by decide) g48
                have g59 : jGet L53 6 = some (.int (i32 (0))) := eL53 ▸ jg_ne (by decide) g49 rfl
                have g60 : jGet L53 4 = some (rv (F (ot) (14 : Int))) := eL53 ▸ jg_eq
                clear eL53
                refine jx_ld (pc_q := 116) (l_q := L53) (st_q := [rv (ah)]) rfl (jl_rv g58) ?_
                refine cx_gr (pc_q := 119) (c := 7) (q := 8) (v := F (ah) (8 : Int)) rfl rfl (by decide) (by decide) rfl rfl ho3.1 ho3.2 (show Fx (ah) (8 : Int) = F (ah) (8 : Int) from hMx _ _ ho3.1 (own_z ho3.1) (by rw [ho3.2]; rfl)) ?_
                have y61 : F (ah) (8 : Int) = 0 ∨ (own m (F (ah) (8 : Int)) ∧ tg (F (ah) (8 : Int)) = 8) := by have z := HC_r (c := 7) (q := 8) hCx ho3.1 ho3.2 (by decide) rfl; rw [show Fx (ah) ((8 : Nat) : Int) = F (ah) (8 : Int) from (show Fx (ah) (8 : Int) = F (ah) (8 : Int) from hMx _ _ ho3.1 (own_z ho3.1) (by rw [ho3.2]; rfl))] at z; exact z
                have z62 := mz_n hC c_NT sx_ah (own_z ho3.1)
                refine jx_ld (pc_q := 121) (l_q := jSto1 L53 5 (rv (F (ah) (8 : Int)))) (st_q := []) rfl (js_rv (by decide)) ?_
                obtain ⟨L63, eL63⟩ : ∃ q : jL, q = jSto1 L53 5 (rv (F (ah) (8 : Int))) := ⟨_, rfl⟩
                rw [← eL63]
                have g64 : jGet L63 0 = some (rv (me)) := eL63 ▸ jg_nr (by decide) g54
                have g65 : jGet L63 1 = some (rv (cl)) := eL63 ▸ jg_nr (by decide) g55
                have g66 : jGet L63 2 = some (rv (ag)) := eL63 ▸ jg_nr (by decide) g56
                have g67 : jGet L63 3 = some (rv (pm)) := eL63 ▸ jg_nr (by decide) g57
                have g68 : jGet L63 6 = some (.int (i32 (0))) := eL63 ▸ jg_ne (by decide) g59 rfl
                have g69 : jGet L63 4 = some (rv (F (ot) (14 : Int))) := eL63 ▸ jg_nr (by decide) g60
                have g70 : jGet L63 5 = some (rv (F (ah) (8 : Int))) := eL63 ▸ jg_eq
                clear eL63
                refine jx_go (tg := 15) rfl rfl ?_
                exact ih _ (by omega) L63 Fx (F (ot) (14 : Int)) (F (ah) (8 : Int)) rfl g64 g65 g66 g67 g69 g70 hCx hMx y51 y61 (SN_w (SN_n hC c_NT sx_ah (own_z ho3.1)) (by omega))
              · have _q := h50
                exact absurd h50 (by omega)
            · have _q := h41
              refine jx_ld (pc_q := 54) (l_q := L) (st_q := [rv (ah)]) rfl (jl_rv gL_5) ?_
              refine jx_ld (pc_q := 55) (l_q := L) (st_q := [rv (ag), rv (ah)]) rfl (jl_rvn gL_2) ?_
              refine jx_ar (pc_q := 56) (st_q := .null :: [rv (ag), rv (ah)]) rfl rfl rfl rfl ?_
              rw [← rv_0]
              refine cx_st (st := []) (as := [rv (ah), rv (ag), rv (0)]) rfl rfl rfl ⟨rfl, (Nat.le_of_ble_eq_true rfl)⟩ rfl (k_LUses_meets (dd := d) (R := R) (m := m) (tg := tg) (ln := ln) (F := Fx) (p := ah) (o := ag) (ix := 0) (hd := by omega) (hC := hCx) (o_p := ho3.1) (t_p := ho3.2) (o_o := o_ag) (t_o := t_ag) (y_ix := (Or.inl rfl))) (fun o V_q hq => ?_)
              obtain ⟨r71, rfl, rfl, b72, -⟩ := hq
              refine Or.inr (Or.inl ⟨_, rfl, ?_⟩)
              refine jx_if_eq (pc_q := 62) (tg := 66) rfl rfl rfl (by omega) (by omega) (fun h73 => ?_) (fun h73 => ?_)
              · have _q := h73
                refine jx_ar (pc_q := 67) (st_q := [.int (i32 (0))]) rfl rfl rfl rfl ?_
                refine jx_ld (pc_q := 69) (l_q := jSto1 L 6 (.int (i32 (0)))) (st_q := []) rfl rfl ?_
                obtain ⟨L74, eL74⟩ : ∃ q : jL, q = jSto1 L 6 (.int (i32 (0))) := ⟨_, rfl⟩
                rw [← eL74]
                have g75 : jGet L74 0 = some (rv (me)) := eL74 ▸ jg_nr (by decide) gL_0
                have g76 : jGet L74 1 = some (rv (cl)) := eL74 ▸ jg_nr (by decide) gL_1
                have g77 : jGet L74 2 = some (rv (ag)) := eL74 ▸ jg_nr (by decide) gL_2
                have g78 : jGet L74 3 = some (rv (pm)) := eL74 ▸ jg_nr (by decide) gL_3
                have g79 : jGet L74 4 = some (rv (ot)) := eL74 ▸ jg_nr (by decide) gL_4
                have g80 : jGet L74 5 = some (rv (ah)) := eL74 ▸ jg_nr (by decide) gL_5
                have g81 : jGet L74 6 = some (.int (i32 (0))) := eL74 ▸ jg_eq
                clear eL74
                refine jx_ld (pc_q := 71) (l_q := L74) (st_q := [.int (i32 (0))]) rfl (jl_iload g81) ?_
                refine jx_if_eq (pc_q := 74) (tg := 107) rfl rfl rfl (by decide) (by decide) (fun h82 => ?_) (fun h82 => ?_)
                · have _q := h82
                  refine jx_ld (pc_q := 109) (l_q := L74) (st_q := [rv (ot)]) rfl (jl_rv g79) ?_
                  refine cx_gr (pc_q := 112) (c := 6) (q := 14) (v := F (ot) (14 : Int)) rfl rfl (by decide) (by decide) rfl rfl ho7.1 ho7.2 (show Fx (ot) (14 : Int) = F (ot) (14 : Int) from hMx _ _ ho7.1 (own_z ho7.1) (by rw [ho7.2]; rfl)) ?_
                  have y83 : F (ot) (14 : Int) = 0 ∨ (own m (F (ot) (14 : Int)) ∧ tg (F (ot) (14 : Int)) = 7) := by have z := HC_r (c := 6) (q := 14) hCx ho7.1 ho7.2 (by decide) rfl; rw [show Fx (ot) ((14 : Nat) : Int) = F (ot) (14 : Int) from (show Fx (ot) (14 : Int) = F (ot) (14 : Int) from hMx _ _ ho7.1 (own_z ho7.1) (by rw [ho7.2]; rfl))] at z; exact z
                  have z84 := mz_a hC c_NT ho7.1 ho7.2
                  refine jx_ld (pc_q := 114) (l_q := jSto1 L74 4 (rv (F (ot) (14 : Int)))) (st_q := []) rfl (js_rv (by decide)) ?_
                  obtain ⟨L85, eL85⟩ : ∃ q : jL, q = jSto1 L74 4 (rv (F (ot) (14 : Int))) := ⟨_, rfl⟩
                  rw [← eL85]
                  have g86 : jGet L85 0 = some (rv (me)) := eL85 ▸ jg_nr (by decide) g75
                  have g87 : jGet L85 1 = some (rv (cl)) := eL85 ▸ jg_nr (by decide) g76
                  have g88 : jGet L85 2 = some (rv (ag)) := eL85 ▸ jg_nr (by decide) g77
                  have g89 : jGet L85 3 = some (rv (pm)) := eL85 ▸ jg_nr (by decide) g78
                  have g90 : jGet L85 5 = some (rv (ah)) := eL85 ▸ jg_nr (by decide) g80
                  have g91 : jGet L85 6 = some (.int (i32 (0))) := eL85 ▸ jg_ne (by decide) g81 rfl
                  have g92 : jGet L85 4 = some (rv (F (ot) (14 : Int))) := eL85 ▸ jg_eq
                  clear eL85
                  refine jx_ld (pc_q := 116) (l_q := L85) (st_q := [rv (ah)]) rfl (jl_rv g90) ?_
                  refine cx_gr (pc_q := 119) (c := 7) (q := 8) (v := F (ah) (8 : Int)) rfl rfl (by decide) (by decide) rfl rfl ho3.1 ho3.2 (show Fx (ah) (8 : Int) = F (ah) (8 : Int) from hMx _ _ ho3.1 (own_z ho3.1) (by rw [ho3.2]; rfl)) ?_
                  have y93 : F (ah) (8 : Int) = 0 ∨ (own m (F (ah) (8 : Int)) ∧ tg (F (ah) (8 : Int)) = 8) := by have z := HC_r (c := 7) (q := 8) hCx ho3.1 ho3.2 (by decide) rfl; rw [show Fx (ah) ((8 : Nat) : Int) = F (ah) (8 : Int) from (show Fx (ah) (8 : Int) = F (ah) (8 : Int) from hMx _ _ ho3.1 (own_z ho3.1) (by rw [ho3.2]; rfl))] at z; exact z
                  have z94 := mz_n hC c_NT sx_ah (own_z ho3.1)
                  refine jx_ld (pc_q := 121) (l_q := jSto1 L85 5 (rv (F (ah) (8 : Int)))) (st_q := []) rfl (js_rv (by decide)) ?_
                  obtain ⟨L95, eL95⟩ : ∃ q : jL, q = jSto1 L85 5 (rv (F (ah) (8 : Int))) := ⟨_, rfl⟩
                  rw [← eL95]
                  have g96 : jGet L95 0 = some (rv (me)) := eL95 ▸ jg_nr (by decide) g86
                  have g97 : jGet L95 1 = some (rv (cl)) := eL95 ▸ jg_nr (by decide) g87
                  have g98 : jGet L95 2 = some (rv (ag)) := eL95 ▸ jg_nr (by decide) g88
                  have g99 : jGet L95 3 = some (rv (pm)) := eL95 ▸ jg_nr (by decide) g89
                  have g100 : jGet L95 6 = some (.int (i32 (0))) := eL95 ▸ jg_ne (by decide) g91 rfl
                  have g101 : jGet L95 4 = some (rv (F (ot) (14 : Int))) := eL95 ▸ jg_nr (by decide) g92
                  have g102 : jGet L95 5 = some (rv (F (ah) (8 : Int))) := eL95 ▸ jg_eq
                  clear eL95
                  refine jx_go (tg := 15) rfl rfl ?_
                  exact ih _ (by omega) L95 Fx (F (ot) (14 : Int)) (F (ah) (8 : Int)) rfl g96 g97 g98 g99 g101 g102 hCx hMx y83 y93 (SN_w (SN_n hC c_NT sx_ah (own_z ho3.1)) (by omega))
                · have _q := h82
                  exact absurd h82 (by omega)
              · have _q := h73
                refine jx_ar (pc_q := 63) (st_q := [.int (i32 (1))]) rfl rfl rfl rfl ?_
                refine jx_go (tg := 67) rfl rfl ?_
                refine jx_ld (pc_q := 69) (l_q := jSto1 L 6 (.int (i32 (1)))) (st_q := []) rfl rfl ?_
                obtain ⟨L103, eL103⟩ : ∃ q : jL, q = jSto1 L 6 (.int (i32 (1))) := ⟨_, rfl⟩
                rw [← eL103]
                have g104 : jGet L103 0 = some (rv (me)) := eL103 ▸ jg_nr (by decide) gL_0
                have g105 : jGet L103 1 = some (rv (cl)) := eL103 ▸ jg_nr (by decide) gL_1
                have g106 : jGet L103 2 = some (rv (ag)) := eL103 ▸ jg_nr (by decide) gL_2
                have g107 : jGet L103 3 = some (rv (pm)) := eL103 ▸ jg_nr (by decide) gL_3
                have g108 : jGet L103 4 = some (rv (ot)) := eL103 ▸ jg_nr (by decide) gL_4
                have g109 : jGet L103 5 = some (rv (ah)) := eL103 ▸ jg_nr (by decide) gL_5
                have g110 : jGet L103 6 = some (.int (i32 (1))) := eL103 ▸ jg_eq
                clear eL103
                refine jx_ld (pc_q := 71) (l_q := L103) (st_q := [.int (i32 (1))]) rfl (jl_iload g110) ?_
                refine jx_if_eq (pc_q := 74) (tg := 107) rfl rfl rfl (by decide) (by decide) (fun h111 => ?_) (fun h111 => ?_)
                · have _q := h111
                  exact absurd h111 (by omega)
                · have _q := h111
                  refine jx_ld (pc_q := 75) (l_q := L103) (st_q := [rv (ag)]) rfl (jl_rvn g106) ?_
                  refine cx_gr (pc_q := 78) (c := 7) (q := 3) (v := F (ag) (3 : Int)) rfl rfl (by decide) (by decide) rfl rfl o_ag t_ag (show Fx (ag) (3 : Int) = F (ag) (3 : Int) from hMx _ _ o_ag (own_z o_ag) (by rw [t_ag]; rfl)) ?_
                  have hn112 : F (ag) (3 : Int) ≠ 0 := p_1
                  have ho113 : own m (F (ag) (3 : Int)) ∧ tg (F (ag) (3 : Int)) = 7 := y40.resolve_left hn112
                  refine cx_vi (c := 6) (a := F (ag) (3 : Int)) (st := []) (as := []) rfl rfl rfl ho113.1 ho113.2 (by decide) rfl ⟨rfl, rfl, (Nat.le_of_ble_eq_true rfl)⟩ rfl (k_LName_isChannel (dd := d) (R := R) (m := m) (tg := tg) (ln := ln) (F := Fx) (me := F (ag) (3 : Int)) (hd := by omega) (hC := hCx) (o_me := ho113.1) (t_me := ho113.2)) (fun o V_q hq => ?_)
                  obtain ⟨r114, rfl, rfl, b115, -⟩ := hq
                  refine Or.inr (Or.inl ⟨_, rfl, ?_⟩)
                  refine jx_if_ne (pc_q := 84) (tg := 99) rfl rfl rfl (by omega) (by omega) (fun h116 => ?_) (fun h116 => ?_)
                  · have _q := h116
                    refine jx_ld (pc_q := 100) (l_q := L103) (st_q := [rv (me)]) rfl (jl_rvn g104) ?_
                    refine jx_ld (pc_q := 101) (l_q := L103) (st_q := [rv (cl), rv (me)]) rfl (jl_rvn g105) ?_
                    refine cx_gi (pc_q := 104) (c := 7) (q := 1) (v := F (cl) (1 : Int)) rfl rfl (by decide) (by decide) (Or.inl rfl) rfl o_cl t_cl (show Fx (cl) (1 : Int) = F (cl) (1 : Int) from hMx _ _ o_cl (own_z o_cl) (by rw [t_cl]; rfl)) ?_
                    have b117 : (-2147483648 : Int) ≤ F (cl) (1 : Int) ∧ F (cl) (1 : Int) ≤ 2147483647 := by have z := HC_i (c := 7) (q := 1) hCx o_cl t_cl (by decide) rfl; rw [show Fx (cl) ((1 : Nat) : Int) = F (cl) (1 : Int) from (show Fx (cl) (1 : Int) = F (cl) (1 : Int) from hMx _ _ o_cl (own_z o_cl) (by rw [t_cl]; rfl))] at z; exact z
                    refine cx_vi (c := 11) (a := me) (st := []) (as := [.int (i32 (F (cl) (1 : Int)))]) rfl rfl rfl o_me t_me (by decide) rfl ⟨rfl, rfl, (Nat.le_of_ble_eq_true rfl)⟩ rfl (k_LUses_blame (dd := d) (R := R) (m := m) (tg := tg) (ln := ln) (F := Fx) (me := me) (l := F (cl) (1 : Int)) (hd := by omega) (hC := hCx) (o_me := o_me) (t_me := t_me) (h_l := by omega)) (fun o V_q hq => ?_)
                    obtain ⟨F118, rfl, rfl, hC119, hM120, -⟩ := hq
                    have hM121 : Fq 0 [(12, 4)] m tg F F118 := Fq_t (ln := ln) (ln1 := ln) hMx Ex_r hM120 (by decide) (Or.inl rfl)
                    refine Or.inl ⟨rfl, ?_⟩
                    refine jx_ld (pc_q := 109) (l_q := L103) (st_q := [rv (ot)]) rfl (jl_rv g108) ?_
                    refine cx_gr (pc_q := 112) (c := 6) (q := 14) (v := F (ot) (14 : Int)) rfl rfl (by decide) (by decide) rfl rfl ho7.1 ho7.2 ((show F118 (ot) (14 : Int) = Fx (ot) (14 : Int) from hM120 _ _ ho7.1 (own_z ho7.1) (by rw [ho7.2]; rfl)).trans (show Fx (ot) (14 : Int) = F (ot) (14 : Int) from hMx _ _ ho7.1 (own_z ho7.1) (by rw [ho7.2]; rfl))) ?_
                    have y122 : F (ot) (14 : Int) = 0 ∨ (own m (F (ot) (14 : Int)) ∧ tg (F (ot) (14 : Int)) = 7) := by have z := HC_r (c := 6) (q := 14) hC119 ho7.1 ho7.2 (by decide) rfl; rw [show F118 (ot) ((14 : Nat) : Int) = F (ot) (14 : Int) from ((show F118 (ot) (14 : Int) = Fx (ot) (14 : Int) from hM120 _ _ ho7.1 (own_z ho7.1) (by rw [ho7.2]; rfl)).trans (show Fx (ot) (14 : Int) = F (ot) (14 : Int) from hMx _ _ ho7.1 (own_z ho7.1) (by rw [ho7.2]; rfl)))] at z; exact z
                    have z123 := mz_a hC c_NT ho7.1 ho7.2
                    refine jx_ld (pc_q := 114) (l_q := jSto1 L103 4 (rv (F (ot) (14 : Int)))) (st_q := []) rfl (js_rv (by decide)) ?_
                    obtain ⟨L124, eL124⟩ : ∃ q : jL, q = jSto1 L103 4 (rv (F (ot) (14 : Int))) := ⟨_, rfl⟩
                    rw [← eL124]
                    have g125 : jGet L124 0 = some (rv (me)) := eL124 ▸ jg_nr (by decide) g104
                    have g126 : jGet L124 1 = some (rv (cl)) := eL124 ▸ jg_nr (by decide) g105
                    have g127 : jGet L124 2 = some (rv (ag)) := eL124 ▸ jg_nr (by decide) g106
                    have g128 : jGet L124 3 = some (rv (pm)) := eL124 ▸ jg_nr (by decide) g107
                    have g129 : jGet L124 5 = some (rv (ah)) := eL124 ▸ jg_nr (by decide) g109
                    have g130 : jGet L124 6 = some (.int (i32 (1))) := eL124 ▸ jg_ne (by decide) g110 rfl
                    have g131 : jGet L124 4 = some (rv (F (ot) (14 : Int))) := eL124 ▸ jg_eq
                    clear eL124
                    refine jx_ld (pc_q := 116) (l_q := L124) (st_q := [rv (ah)]) rfl (jl_rv g129) ?_
                    refine cx_gr (pc_q := 119) (c := 7) (q := 8) (v := F (ah) (8 : Int)) rfl rfl (by decide) (by decide) rfl rfl ho3.1 ho3.2 ((show F118 (ah) (8 : Int) = Fx (ah) (8 : Int) from hM120 _ _ ho3.1 (own_z ho3.1) (by rw [ho3.2]; rfl)).trans (show Fx (ah) (8 : Int) = F (ah) (8 : Int) from hMx _ _ ho3.1 (own_z ho3.1) (by rw [ho3.2]; rfl))) ?_
                    have y132 : F (ah) (8 : Int) = 0 ∨ (own m (F (ah) (8 : Int)) ∧ tg (F (ah) (8 : Int)) = 8) := by have z := HC_r (c := 7) (q := 8) hC119 ho3.1 ho3.2 (by decide) rfl; rw [show F118 (ah) ((8 : Nat) : Int) = F (ah) (8 : Int) from ((show F118 (ah) (8 : Int) = Fx (ah) (8 : Int) from hM120 _ _ ho3.1 (own_z ho3.1) (by rw [ho3.2]; rfl)).trans (show Fx (ah) (8 : Int) = F (ah) (8 : Int) from hMx _ _ ho3.1 (own_z ho3.1) (by rw [ho3.2]; rfl)))] at z; exact z
                    have z133 := mz_n hC c_NT sx_ah (own_z ho3.1)
                    refine jx_ld (pc_q := 121) (l_q := jSto1 L124 5 (rv (F (ah) (8 : Int)))) (st_q := []) rfl (js_rv (by decide)) ?_
                    obtain ⟨L134, eL134⟩ : ∃ q : jL, q = jSto1 L124 5 (rv (F (ah) (8 : Int))) := ⟨_, rfl⟩
                    rw [← eL134]
                    have g135 : jGet L134 0 = some (rv (me)) := eL134 ▸ jg_nr (by decide) g125
                    have g136 : jGet L134 1 = some (rv (cl)) := eL134 ▸ jg_nr (by decide) g126
                    have g137 : jGet L134 2 = some (rv (ag)) := eL134 ▸ jg_nr (by decide) g127
                    have g138 : jGet L134 3 = some (rv (pm)) := eL134 ▸ jg_nr (by decide) g128
                    have g139 : jGet L134 6 = some (.int (i32 (1))) := eL134 ▸ jg_ne (by decide) g130 rfl
                    have g140 : jGet L134 4 = some (rv (F (ot) (14 : Int))) := eL134 ▸ jg_nr (by decide) g131
                    have g141 : jGet L134 5 = some (rv (F (ah) (8 : Int))) := eL134 ▸ jg_eq
                    clear eL134
                    refine jx_go (tg := 15) rfl rfl ?_
                    exact ih _ (by omega) L134 F118 (F (ot) (14 : Int)) (F (ah) (8 : Int)) rfl g135 g136 g137 g138 g140 g141 hC119 hM121 y122 y132 (SN_w (SN_n hC c_NT sx_ah (own_z ho3.1)) (by omega))
                  · have _q := h116
                    refine jx_ld (pc_q := 86) (l_q := L103) (st_q := [rv (ot)]) rfl (jl_rv g108) ?_
                    refine cx_gi (pc_q := 89) (c := 6) (q := 11) (v := F (ot) (11 : Int)) rfl rfl (by decide) (by decide) (Or.inl rfl) rfl ho7.1 ho7.2 (show Fx (ot) (11 : Int) = F (ot) (11 : Int) from hMx _ _ ho7.1 (own_z ho7.1) (by rw [ho7.2]; rfl)) ?_
                    have b142 : (-2147483648 : Int) ≤ F (ot) (11 : Int) ∧ F (ot) (11 : Int) ≤ 2147483647 := by have z := HC_i (c := 6) (q := 11) hCx ho7.1 ho7.2 (by decide) rfl; rw [show Fx (ot) ((11 : Nat) : Int) = F (ot) (11 : Int) from (show Fx (ot) (11 : Int) = F (ot) (11 : Int) from hMx _ _ ho7.1 (own_z ho7.1) (by rw [ho7.2]; rfl))] at z; exact z
                    refine jx_ld (pc_q := 90) (l_q := L103) (st_q := [rv (pm), .int (i32 (F (ot) (11 : Int)))]) rfl (jl_rvn g107) ?_
                    refine cx_gi (pc_q := 93) (c := 6) (q := 11) (v := F (pm) (11 : Int)) rfl rfl (by decide) (by decide) (Or.inl rfl) rfl o_pm t_pm (show Fx (pm) (11 : Int) = F (pm) (11 : Int) from hMx _ _ o_pm (own_z o_pm) (by rw [t_pm]; rfl)) ?_
                    have b143 : (-2147483648 : Int) ≤ F (pm) (11 : Int) ∧ F (pm) (11 : Int) ≤ 2147483647 := by have z := HC_i (c := 6) (q := 11) hCx o_pm t_pm (by decide) rfl; rw [show Fx (pm) ((11 : Nat) : Int) = F (pm) (11 : Int) from (show Fx (pm) (11 : Int) = F (pm) (11 : Int) from hMx _ _ o_pm (own_z o_pm) (by rw [t_pm]; rfl))] at z; exact z
                    refine cx_st (st := []) (as := [.int (i32 (F (ot) (11 : Int))), .int (i32 (F (pm) (11 : Int)))]) rfl rfl rfl ⟨rfl, (Nat.le_of_ble_eq_true rfl)⟩ rfl (k_LUses_clash (dd := d) (R := R) (m := m) (tg := tg) (ln := ln) (F := Fx) (a := F (ot) (11 : Int)) (b := F (pm) (11 : Int)) (hd := by omega) (hC := hCx) (h_a := by omega) (h_b := by omega)) (fun o V_q hq => ?_)
                    obtain ⟨r144, rfl, rfl, b145, -⟩ := hq
                    refine Or.inr (Or.inl ⟨_, rfl, ?_⟩)
                    refine jx_if_eq (pc_q := 99) (tg := 107) rfl rfl rfl (by omega) (by omega) (fun h146 => ?_) (fun h146 => ?_)
                    · have _q := h146
                      refine jx_ld (pc_q := 109) (l_q := L103) (st_q := [rv (ot)]) rfl (jl_rv g108) ?_
                      refine cx_gr (pc_q := 112) (c := 6) (q := 14) (v := F (ot) (14 : Int)) rfl rfl (by decide) (by decide) rfl rfl ho7.1 ho7.2 (show Fx (ot) (14 : Int) = F (ot) (14 : Int) from hMx _ _ ho7.1 (own_z ho7.1) (by rw [ho7.2]; rfl)) ?_
                      have y147 : F (ot) (14 : Int) = 0 ∨ (own m (F (ot) (14 : Int)) ∧ tg (F (ot) (14 : Int)) = 7) := by have z := HC_r (c := 6) (q := 14) hCx ho7.1 ho7.2 (by decide) rfl; rw [show Fx (ot) ((14 : Nat) : Int) = F (ot) (14 : Int) from (show Fx (ot) (14 : Int) = F (ot) (14 : Int) from hMx _ _ ho7.1 (own_z ho7.1) (by rw [ho7.2]; rfl))] at z; exact z
                      have z148 := mz_a hC c_NT ho7.1 ho7.2
                      refine jx_ld (pc_q := 114) (l_q := jSto1 L103 4 (rv (F (ot) (14 : Int)))) (st_q := []) rfl (js_rv (by decide)) ?_
                      obtain ⟨L149, eL149⟩ : ∃ q : jL, q = jSto1 L103 4 (rv (F (ot) (14 : Int))) := ⟨_, rfl⟩
                      rw [← eL149]
                      have g150 : jGet L149 0 = some (rv (me)) := eL149 ▸ jg_nr (by decide) g104
                      have g151 : jGet L149 1 = some (rv (cl)) := eL149 ▸ jg_nr (by decide) g105
                      have g152 : jGet L149 2 = some (rv (ag)) := eL149 ▸ jg_nr (by decide) g106
                      have g153 : jGet L149 3 = some (rv (pm)) := eL149 ▸ jg_nr (by decide) g107
                      have g154 : jGet L149 5 = some (rv (ah)) := eL149 ▸ jg_nr (by decide) g109
                      have g155 : jGet L149 6 = some (.int (i32 (1))) := eL149 ▸ jg_ne (by decide) g110 rfl
                      have g156 : jGet L149 4 = some (rv (F (ot) (14 : Int))) := eL149 ▸ jg_eq
                      clear eL149
                      refine jx_ld (pc_q := 116) (l_q := L149) (st_q := [rv (ah)]) rfl (jl_rv g154) ?_
                      refine cx_gr (pc_q := 119) (c := 7) (q := 8) (v := F (ah) (8 : Int)) rfl rfl (by decide) (by decide) rfl rfl ho3.1 ho3.2 (show Fx (ah) (8 : Int) = F (ah) (8 : Int) from hMx _ _ ho3.1 (own_z ho3.1) (by rw [ho3.2]; rfl)) ?_
                      have y157 : F (ah) (8 : Int) = 0 ∨ (own m (F (ah) (8 : Int)) ∧ tg (F (ah) (8 : Int)) = 8) := by have z := HC_r (c := 7) (q := 8) hCx ho3.1 ho3.2 (by decide) rfl; rw [show Fx (ah) ((8 : Nat) : Int) = F (ah) (8 : Int) from (show Fx (ah) (8 : Int) = F (ah) (8 : Int) from hMx _ _ ho3.1 (own_z ho3.1) (by rw [ho3.2]; rfl))] at z; exact z
                      have z158 := mz_n hC c_NT sx_ah (own_z ho3.1)
                      refine jx_ld (pc_q := 121) (l_q := jSto1 L149 5 (rv (F (ah) (8 : Int)))) (st_q := []) rfl (js_rv (by decide)) ?_
                      obtain ⟨L159, eL159⟩ : ∃ q : jL, q = jSto1 L149 5 (rv (F (ah) (8 : Int))) := ⟨_, rfl⟩
                      rw [← eL159]
                      have g160 : jGet L159 0 = some (rv (me)) := eL159 ▸ jg_nr (by decide) g150
                      have g161 : jGet L159 1 = some (rv (cl)) := eL159 ▸ jg_nr (by decide) g151
                      have g162 : jGet L159 2 = some (rv (ag)) := eL159 ▸ jg_nr (by decide) g152
                      have g163 : jGet L159 3 = some (rv (pm)) := eL159 ▸ jg_nr (by decide) g153
                      have g164 : jGet L159 6 = some (.int (i32 (1))) := eL159 ▸ jg_ne (by decide) g155 rfl
                      have g165 : jGet L159 4 = some (rv (F (ot) (14 : Int))) := eL159 ▸ jg_nr (by decide) g156
                      have g166 : jGet L159 5 = some (rv (F (ah) (8 : Int))) := eL159 ▸ jg_eq
                      clear eL159
                      refine jx_go (tg := 15) rfl rfl ?_
                      exact ih _ (by omega) L159 Fx (F (ot) (14 : Int)) (F (ah) (8 : Int)) rfl g160 g161 g162 g163 g165 g166 hCx hMx y147 y157 (SN_w (SN_n hC c_NT sx_ah (own_z ho3.1)) (by omega))
                    · have _q := h146
                      refine jx_ld (pc_q := 100) (l_q := L103) (st_q := [rv (me)]) rfl (jl_rvn g104) ?_
                      refine jx_ld (pc_q := 101) (l_q := L103) (st_q := [rv (cl), rv (me)]) rfl (jl_rvn g105) ?_
                      refine cx_gi (pc_q := 104) (c := 7) (q := 1) (v := F (cl) (1 : Int)) rfl rfl (by decide) (by decide) (Or.inl rfl) rfl o_cl t_cl (show Fx (cl) (1 : Int) = F (cl) (1 : Int) from hMx _ _ o_cl (own_z o_cl) (by rw [t_cl]; rfl)) ?_
                      have b167 : (-2147483648 : Int) ≤ F (cl) (1 : Int) ∧ F (cl) (1 : Int) ≤ 2147483647 := by have z := HC_i (c := 7) (q := 1) hCx o_cl t_cl (by decide) rfl; rw [show Fx (cl) ((1 : Nat) : Int) = F (cl) (1 : Int) from (show Fx (cl) (1 : Int) = F (cl) (1 : Int) from hMx _ _ o_cl (own_z o_cl) (by rw [t_cl]; rfl))] at z; exact z
                      refine cx_vi (c := 11) (a := me) (st := []) (as := [.int (i32 (F (cl) (1 : Int)))]) rfl rfl rfl o_me t_me (by decide) rfl ⟨rfl, rfl, (Nat.le_of_ble_eq_true rfl)⟩ rfl (k_LUses_blame (dd := d) (R := R) (m := m) (tg := tg) (ln := ln) (F := Fx) (me := me) (l := F (cl) (1 : Int)) (hd := by omega) (hC := hCx) (o_me := o_me) (t_me := t_me) (h_l := by omega)) (fun o V_q hq => ?_)
                      obtain ⟨F168, rfl, rfl, hC169, hM170, -⟩ := hq
                      have hM171 : Fq 0 [(12, 4)] m tg F F168 := Fq_t (ln := ln) (ln1 := ln) hMx Ex_r hM170 (by decide) (Or.inl rfl)
                      refine Or.inl ⟨rfl, ?_⟩
                      refine jx_ld (pc_q := 109) (l_q := L103) (st_q := [rv (ot)]) rfl (jl_rv g108) ?_
                      refine cx_gr (pc_q := 112) (c := 6) (q := 14) (v := F (ot) (14 : Int)) rfl rfl (by decide) (by decide) rfl rfl ho7.1 ho7.2 ((show F168 (ot) (14 : Int) = Fx (ot) (14 : Int) from hM170 _ _ ho7.1 (own_z ho7.1) (by rw [ho7.2]; rfl)).trans (show Fx (ot) (14 : Int) = F (ot) (14 : Int) from hMx _ _ ho7.1 (own_z ho7.1) (by rw [ho7.2]; rfl))) ?_
                      have y172 : F (ot) (14 : Int) = 0 ∨ (own m (F (ot) (14 : Int)) ∧ tg (F (ot) (14 : Int)) = 7) := by have z := HC_r (c := 6) (q := 14) hC169 ho7.1 ho7.2 (by decide) rfl; rw [show F168 (ot) ((14 : Nat) : Int) = F (ot) (14 : Int) from ((show F168 (ot) (14 : Int) = Fx (ot) (14 : Int) from hM170 _ _ ho7.1 (own_z ho7.1) (by rw [ho7.2]; rfl)).trans (show Fx (ot) (14 : Int) = F (ot) (14 : Int) from hMx _ _ ho7.1 (own_z ho7.1) (by rw [ho7.2]; rfl)))] at z; exact z
                      have z173 := mz_a hC c_NT ho7.1 ho7.2
                      refine jx_ld (pc_q := 114) (l_q := jSto1 L103 4 (rv (F (ot) (14 : Int)))) (st_q := []) rfl (js_rv (by decide)) ?_
                      obtain ⟨L174, eL174⟩ : ∃ q : jL, q = jSto1 L103 4 (rv (F (ot) (14 : Int))) := ⟨_, rfl⟩
                      rw [← eL174]
                      have g175 : jGet L174 0 = some (rv (me)) := eL174 ▸ jg_nr (by decide) g104
                      have g176 : jGet L174 1 = some (rv (cl)) := eL174 ▸ jg_nr (by decide) g105
                      have g177 : jGet L174 2 = some (rv (ag)) := eL174 ▸ jg_nr (by decide) g106
                      have g178 : jGet L174 3 = some (rv (pm)) := eL174 ▸ jg_nr (by decide) g107
                      have g179 : jGet L174 5 = some (rv (ah)) := eL174 ▸ jg_nr (by decide) g109
                      have g180 : jGet L174 6 = some (.int (i32 (1))) := eL174 ▸ jg_ne (by decide) g110 rfl
                      have g181 : jGet L174 4 = some (rv (F (ot) (14 : Int))) := eL174 ▸ jg_eq
                      clear eL174
                      refine jx_ld (pc_q := 116) (l_q := L174) (st_q := [rv (ah)]) rfl (jl_rv g179) ?_
                      refine cx_gr (pc_q := 119) (c := 7) (q := 8) (v := F (ah) (8 : Int)) rfl rfl (by decide) (by decide) rfl rfl ho3.1 ho3.2 ((show F168 (ah) (8 : Int) = Fx (ah) (8 : Int) from hM170 _ _ ho3.1 (own_z ho3.1) (by rw [ho3.2]; rfl)).trans (show Fx (ah) (8 : Int) = F (ah) (8 : Int) from hMx _ _ ho3.1 (own_z ho3.1) (by rw [ho3.2]; rfl))) ?_
                      have y182 : F (ah) (8 : Int) = 0 ∨ (own m (F (ah) (8 : Int)) ∧ tg (F (ah) (8 : Int)) = 8) := by have z := HC_r (c := 7) (q := 8) hC169 ho3.1 ho3.2 (by decide) rfl; rw [show F168 (ah) ((8 : Nat) : Int) = F (ah) (8 : Int) from ((show F168 (ah) (8 : Int) = Fx (ah) (8 : Int) from hM170 _ _ ho3.1 (own_z ho3.1) (by rw [ho3.2]; rfl)).trans (show Fx (ah) (8 : Int) = F (ah) (8 : Int) from hMx _ _ ho3.1 (own_z ho3.1) (by rw [ho3.2]; rfl)))] at z; exact z
                      have z183 := mz_n hC c_NT sx_ah (own_z ho3.1)
                      refine jx_ld (pc_q := 121) (l_q := jSto1 L174 5 (rv (F (ah) (8 : Int)))) (st_q := []) rfl (js_rv (by decide)) ?_
                      obtain ⟨L184, eL184⟩ : ∃ q : jL, q = jSto1 L174 5 (rv (F (ah) (8 : Int))) := ⟨_, rfl⟩
                      rw [← eL184]
                      have g185 : jGet L184 0 = some (rv (me)) := eL184 ▸ jg_nr (by decide) g175
                      have g186 : jGet L184 1 = some (rv (cl)) := eL184 ▸ jg_nr (by decide) g176
                      have g187 : jGet L184 2 = some (rv (ag)) := eL184 ▸ jg_nr (by decide) g177
                      have g188 : jGet L184 3 = some (rv (pm)) := eL184 ▸ jg_nr (by decide) g178
                      have g189 : jGet L184 6 = some (.int (i32 (1))) := eL184 ▸ jg_ne (by decide) g180 rfl
                      have g190 : jGet L184 4 = some (rv (F (ot) (14 : Int))) := eL184 ▸ jg_nr (by decide) g181
                      have g191 : jGet L184 5 = some (rv (F (ah) (8 : Int))) := eL184 ▸ jg_eq
                      clear eL184
                      refine jx_go (tg := 15) rfl rfl ?_
                      exact ih _ (by omega) L184 F168 (F (ot) (14 : Int)) (F (ah) (8 : Int)) rfl g185 g186 g187 g188 g190 g191 hC169 hM171 y172 y182 (SN_w (SN_n hC c_NT sx_ah (own_z ho3.1)) (by omega))
set_option maxRecDepth 20000 in
set_option maxHeartbeats 4000000 in
theorem k_LUses_againstOthers {X : jX} {kk : Nat} {dd : Nat} {R : Nat → jC} {m : Nat} {tg ln : Int → Int} {F : Int → Int → Int} {me cl ag pm : Int} (hd : 3 * kk + 8 ≤ dd) (hC : HC 0 m tg ln F) (o_me : own m me) (t_me : tg me = 12) (o_cl : own m cl) (t_cl : tg cl = 8) (o_ag : own m ag) (t_ag : tg ag = 8) (o_pm : own m pm) (t_pm : tg pm = 7) (p_0 : F cl (3 : Int) ≠ 0) (p_1 : F ag (3 : Int) ≠ 0) (c_NT : NT m tg F) (n_cl : SN m tg F cl (kk)) : wk X dd 235 [rv me, rv cl, rv ag, rv pm] (cV R m tg ln F) (fun o V_q => ∃ (F_q : Int → Int → Int), V_q = cV R m tg ln F_q ∧ o = .inl none ∧ HC 0 m tg ln F_q ∧ Fq 0 [(12, 4)] m tg F F_q ∧ True) := by
  obtain ⟨d, rfl⟩ : ∃ d, dd = d + 1 := ⟨dd - 1, by omega⟩
  refine wk_of (e := jm235) rfl (by rw [jS_r, jS_r, jS_r, jS_r, jS_0]; exact Nat.le_of_ble_eq_true rfl) ?_
  rw [la_r, la_r, la_r, la_r, la_0]
  show wj X d jm235 (0, [(0, rv (me)), (1, rv (cl)), (2, rv (ag)), (3, rv (pm))], [], cV R m tg ln F) _
  have hM0 : Fq 0 [(12, 4)] m tg F F := Fq_r
  obtain ⟨L0, eL0⟩ : ∃ q : jL, q = [(0, rv (me)), (1, rv (cl)), (2, rv (ag)), (3, rv (pm))] := ⟨_, rfl⟩
  rw [← eL0]
  have g192 : jGet L0 0 = some (rv (me)) := eL0 ▸ (rfl : jGet [(0, rv (me)), (1, rv (cl)), (2, rv (ag)), (3, rv (pm))] 0 = some (rv (me)))
  have g193 : jGet L0 1 = some (rv (cl)) := eL0 ▸ (rfl : jGet [(0, rv (me)), (1, rv (cl)), (2, rv (ag)), (3, rv (pm))] 1 = some (rv (cl)))
  have g194 : jGet L0 2 = some (rv (ag)) := eL0 ▸ (rfl : jGet [(0, rv (me)), (1, rv (cl)), (2, rv (ag)), (3, rv (pm))] 2 = some (rv (ag)))
  have g195 : jGet L0 3 = some (rv (pm)) := eL0 ▸ (rfl : jGet [(0, rv (me)), (1, rv (cl)), (2, rv (ag)), (3, rv (pm))] 3 = some (rv (pm)))
  clear eL0
  have k196 := SN_p n_cl (own_z o_cl)
  refine jx_ld (pc_q := 1) (l_q := L0) (st_q := [rv (cl)]) rfl (jl_rvn g193) ?_
  refine cx_gr (pc_q := 4) (c := 7) (q := 3) (v := F (cl) (3 : Int)) rfl rfl (by decide) (by decide) rfl rfl o_cl t_cl rfl ?_
  have y197 : F (cl) (3 : Int) = 0 ∨ (own m (F (cl) (3 : Int)) ∧ tg (F (cl) (3 : Int)) = 7) := by have z := HC_r (c := 7) (q := 3) hC o_cl t_cl (by decide) rfl; rw [show F (cl) ((3 : Nat) : Int) = F (cl) (3 : Int) from rfl] at z; exact z
  have hn198 : F (cl) (3 : Int) ≠ 0 := p_0
  have ho199 : own m (F (cl) (3 : Int)) ∧ tg (F (cl) (3 : Int)) = 7 := y197.resolve_left hn198
  refine cx_gr (pc_q := 7) (c := 6) (q := 13) (v := F (F (cl) (3 : Int)) (13 : Int)) rfl rfl (by decide) (by decide) rfl rfl ho199.1 ho199.2 rfl ?_
  have y200 : F (F (cl) (3 : Int)) (13 : Int) = 0 ∨ (own m (F (F (cl) (3 : Int)) (13 : Int)) ∧ tg (F (F (cl) (3 : Int)) (13 : Int)) = 7) := by have z := HC_r (c := 6) (q := 13) hC ho199.1 ho199.2 (by decide) rfl; rw [show F (F (cl) (3 : Int)) ((13 : Nat) : Int) = F (F (cl) (3 : Int)) (13 : Int) from rfl] at z; exact z
  refine jx_ld (pc_q := 9) (l_q := jSto1 L0 4 (rv (F (F (cl) (3 : Int)) (13 : Int)))) (st_q := []) rfl (js_rv (by decide)) ?_
  obtain ⟨L201, eL201⟩ : ∃ q : jL, q = jSto1 L0 4 (rv (F (F (cl) (3 : Int)) (13 : Int))) := ⟨_, rfl⟩
  rw [← eL201]
  have g202 : jGet L201 0 = some (rv (me)) := eL201 ▸ jg_nr (by decide) g192
  have g203 : jGet L201 1 = some (rv (cl)) := eL201 ▸ jg_nr (by decide) g193
  have g204 : jGet L201 2 = some (rv (ag)) := eL201 ▸ jg_nr (by decide) g194
  have g205 : jGet L201 3 = some (rv (pm)) := eL201 ▸ jg_nr (by decide) g195
  have g206 : jGet L201 4 = some (rv (F (F (cl) (3 : Int)) (13 : Int))) := eL201 ▸ jg_eq
  clear eL201
  refine jx_ld (pc_q := 10) (l_q := L201) (st_q := [rv (cl)]) rfl (jl_rvn g203) ?_
  refine cx_gr (pc_q := 13) (c := 7) (q := 4) (v := F (cl) (4 : Int)) rfl rfl (by decide) (by decide) rfl rfl o_cl t_cl rfl ?_
  have y207 : F (cl) (4 : Int) = 0 ∨ (own m (F (cl) (4 : Int)) ∧ tg (F (cl) (4 : Int)) = 8) := by have z := HC_r (c := 7) (q := 4) hC o_cl t_cl (by decide) rfl; rw [show F (cl) ((4 : Nat) : Int) = F (cl) (4 : Int) from rfl] at z; exact z
  refine jx_ld (pc_q := 15) (l_q := jSto1 L201 5 (rv (F (cl) (4 : Int)))) (st_q := []) rfl (js_rv (by decide)) ?_
  obtain ⟨L208, eL208⟩ : ∃ q : jL, q = jSto1 L201 5 (rv (F (cl) (4 : Int))) := ⟨_, rfl⟩
  rw [← eL208]
  have g209 : jGet L208 0 = some (rv (me)) := eL208 ▸ jg_nr (by decide) g202
  have g210 : jGet L208 1 = some (rv (cl)) := eL208 ▸ jg_nr (by decide) g203
  have g211 : jGet L208 2 = some (rv (ag)) := eL208 ▸ jg_nr (by decide) g204
  have g212 : jGet L208 3 = some (rv (pm)) := eL208 ▸ jg_nr (by decide) g205
  have g213 : jGet L208 4 = some (rv (F (F (cl) (3 : Int)) (13 : Int))) := eL208 ▸ jg_nr (by decide) g206
  have g214 : jGet L208 5 = some (rv (F (cl) (4 : Int))) := eL208 ▸ jg_eq
  clear eL208
  exact k_LUses_againstOthers_at_15 (X := X) (kk := kk) (d := d) (R := R) (m := m) (tg := tg) (ln := ln) (F := F) (me := me) (cl := cl) (ag := ag) (pm := pm) (hd := hd) (hC := hC) (o_me := o_me) (t_me := t_me) (o_cl := o_cl) (t_cl := t_cl) (o_ag := o_ag) (t_ag := t_ag) (o_pm := o_pm) (t_pm := t_pm) (p_0 := p_0) (p_1 := p_1) (c_NT := c_NT) (n_cl := n_cl) _ L208 F (F (F (cl) (3 : Int)) (13 : Int)) (F (cl) (4 : Int)) rfl g209 g210 g211 g212 g213 g214 hC hM0 y200 y207 (SN_w (SN_c hC c_NT n_cl (own_z o_cl) (by omega)) (by omega))
