set_option maxRecDepth 20000 in
set_option maxHeartbeats 4000000 in
theorem k_LUses_againstOthers_at_15 {X : jX} {kk : Nat} {d : Nat} {R : Nat → jC} {m : Nat} {tg ln : Int → Int} {F : Int → Int → Int} {me cl ag pm : Int} (hd : 3 * kk + 8 ≤ d + 1) (hC : HC 0 m tg ln F) (o_me : own m me) (t_me : tg me = 12) (o_cl : own m cl) (t_cl : tg cl = 8) (o_ag : own m ag) (t_ag : tg ag = 8) (o_pm : own m pm) (t_pm : tg pm = 7) (p_0 : F cl (3 : Int) ≠ 0) (p_1 : F ag (3 : Int) ≠ 0) (c_NT : NT m tg F) (n_cl : SN m tg F cl (kk)) : ∀ (mm : Nat) (L : jL) (Fx : Int → Int → Int) (ot ah : Int), (mz m ah).toNat = mm → jGet L 0 = some (rv (me)) → jGet L 1 = some (rv (cl)) → jGet L 2 = some (rv (ag)) → jGet L 3 = some (rv (pm)) → jGet L 4 = some (rv ot) → jGet L 5 = some (rv ah) → HC 0 m tg ln Fx → Fq 0 [(12, 4)] m tg F Fx → (ot = 0 ∨ (own m ot ∧ tg ot = 7)) → (ah = 0 ∨ (own m ah ∧ tg ah = 8)) → (SN m tg F ah (kk - 1)) → wj X d jm235 (15, L, [], cV R m tg ln Fx) (fun o V' => ∃ (F' : Int → Int → Int), V' = cV R m tg ln F' ∧ o = .inl none ∧ HC 0 m tg ln F' ∧ Fq 0 [(12, 4)] m tg F F' ∧ True) := by
  intro mm
  induction mm using Nat.strongRecOn with
  | ind mm ih =>
    intro L Fx ot ah hmm gL_0 gL_1 gL_2 gL_3 gL_4 gL_5 hCx hMx yx_ot yx_ah sx_ah
    have k1 := SN_p n_cl (own_z o_cl)
    refine jx_ld (pc' := 17) (l' := L) (st' := [rv (ah)]) rfl (jl_rv gL_5) ?_
    refine cx_nul (pc' := 20) (tg' := 124) rfl rfl rfl (fun h2 => ?_) (fun h2 => ?_)
    · have _q := h2
      refine jx_rt (v := none) rfl rfl rfl rfl rfl rfl ?_
      exact ⟨Fx, rfl, rfl, hCx, hMx, trivial⟩
    · have _q := h2
      have ho3 : own m (ah) ∧ tg (ah) = 8 := yx_ah.resolve_left h2
      have k4 := SN_p sx_ah h2
      refine jx_ld (pc' := 22) (l' := L) (st' := [rv (ah)]) rfl (jl_rv gL_5) ?_
      refine jx_ld (pc' := 23) (l' := L) (st' := [rv (ag), rv (ah)]) rfl (jl_rvn gL_2) ?_
      refine cx_aeq (pc' := 26) (tg' := 124) rfl rfl rfl (Or.inr o_ag.1) (Or.inr ho3.1.1) (fun h5 => ?_) (fun h5 => ?_)
      · have _q := h5
        refine jx_rt (v := none) rfl rfl rfl rfl rfl rfl ?_
        exact ⟨Fx, rfl, rfl, hCx, hMx, trivial⟩
      · have _q := h5
        refine jx_ld (pc' := 28) (l' := L) (st' := [rv (ot)]) rfl (jl_rv gL_4) ?_
        refine cx_nul (pc' := 31) (tg' := 124) rfl rfl rfl (fun h6 => ?_) (fun h6 => ?_)
        · have _q := h6
          refine jx_rt (v := none) rfl rfl rfl rfl rfl rfl ?_
          exact ⟨Fx, rfl, rfl, hCx, hMx, trivial⟩
        · have _q := h6
          have ho7 : own m (ot) ∧ tg (ot) = 7 := yx_ot.resolve_left h6
          refine jx_ld (pc' := 33) (l' := L) (st' := [rv (ot)]) rfl (jl_rv gL_4) ?_
          refine cx_gi (pc' := 36) (c := 6) (q := 0) (v := F (ot) (0 : Int)) rfl rfl (by decide) (by decide) (Or.inl rfl) rfl ho7.1 ho7.2 (show Fx (ot) (0 : Int) = F (ot) (0 : Int) from hMx _ _ ho7.1 (own_z ho7.1) (by rw [ho7.2]; rfl)) ?_
          have b8 : (-2147483648 : Int) ≤ F (ot) (0 : Int) ∧ F (ot) (0 : Int) ≤ 2147483647 := by have z := HC_i (c := 6) (q := 0) hCx ho7.1 ho7.2 (by decide) rfl; rw [show Fx (ot) ((0 : Nat) : Int) = F (ot) (0 : Int) from (show Fx (ot) (0 : Int) = F (ot) (0 : Int) from hMx _ _ ho7.1 (own_z ho7.1) (by rw [ho7.2]; rfl))] at z; exact z
          refine jx_ar (pc' := 37) (st' := [.int (i32 (1)), .int (i32 (F (ot) (0 : Int)))]) rfl rfl rfl rfl ?_
          refine jx_icmp_eq (pc' := 40) (tg := 66) rfl rfl rfl (by omega) (by omega) (by decide) (by decide) (fun h9 => ?_) (fun h9 => ?_)
          · have _q := h9
            refine jx_ar (pc' := 67) (st' := [.int (i32 (0))]) rfl rfl rfl rfl ?_
            refine jx_ld (pc' := 69) (l' := jSto1 L 6 (.int (i32 (0)))) (st' := []) rfl rfl ?_
            obtain ⟨L10, eL10⟩ : ∃ q : jL, q = jSto1 L 6 (.int (i32 (0))) := ⟨_, rfl⟩
            rw [← eL10]
            have g11 : jGet L10 0 = some (rv (me)) := eL10 ▸ jg_nr (by decide) gL_0
            have g12 : jGet L10 1 = some (rv (cl)) := eL10 ▸ jg_nr (by decide) gL_1
            have g13 : jGet L10 2 = some (rv (ag)) := eL10 ▸ jg_nr (by decide) gL_2
            have g14 : jGet L10 3 = some (rv (pm)) := eL10 ▸ jg_nr (by decide) gL_3
            have g15 : jGet L10 4 = some (rv (ot)) := eL10 ▸ jg_nr (by decide) gL_4
            have g16 : jGet L10 5 = some (rv (ah)) := eL10 ▸ jg_nr (by decide) gL_5
            have g17 : jGet L10 6 = some (.int (i32 (0))) := eL10 ▸ jg_eq
            clear eL10
            refine jx_ld (pc' := 71) (l' := L10) (st' := [.int (i32 (0))]) rfl (jl_iload g17) ?_
            refine jx_if_eq (pc' := 74) (tg := 107) rfl rfl rfl (by decide) (by decide) (fun h18 => ?_) (fun h18 => ?_)
            · have _q := h18
              refine jx_ld (pc' := 109) (l' := L10) (st' := [rv (ot)]) rfl (jl_rv g15) ?_
              refine cx_gr (pc' := 112) (c := 6) (q := 14) (v := F (ot) (14 : Int)) rfl rfl (by decide) (by decide) rfl rfl ho7.1 ho7.2 (show Fx (ot) (14 : Int) = F (ot) (14 : Int) from hMx _ _ ho7.1 (own_z ho7.1) (by rw [ho7.2]; rfl)) ?_
              have y19 : F (ot) (14 : Int) = 0 ∨ (own m (F (ot) (14 : Int)) ∧ tg (F (ot) (14 : Int)) = 7) := by have z := HC_r (c := 6) (q := 14) hCx ho7.1 ho7.2 (by decide) rfl; rw [show Fx (ot) ((14 : Nat) : Int) = F (ot) (14 : Int) from (show Fx (ot) (14 : Int) = F (ot) (14 : Int) from hMx _ _ ho7.1 (own_z ho7.1) (by rw [ho7.2]; rfl))] at z; exact z
              have z20 := mz_a hC c_NT ho7.1 ho7.2
              refine jx_ld (pc' := 114) (l' := jSto1 L10 4 (rv (F (ot) (14 : Int)))) (st' := []) rfl (js_rv (by decide)) ?_
              obtain ⟨L21, eL21⟩ : ∃ q : jL, q = jSto1 L10 4 (rv (F (ot) (14 : Int))) := ⟨_, rfl⟩
              rw [← eL21]
              have g22 : jGet L21 0 = some (rv (me)) := eL21 ▸ jg_nr (by decide) g11
              have g23 : jGet L21 1 = some (rv (cl)) := eL21 ▸ jg_nr (by decide) g12
              have g24 : jGet L21 2 = some (rv (ag)) := eL21 ▸ jg_nr (by decide) g13
              have g25 : jGet L21 3 = some (rv (pm)) := eL21 ▸ jg_nr (by decide) g14
              have g26 : jGet L21 5 = some (rv (ah)) := eL21 ▸ jg_nr (by decide) g16
              have g27 : jGet L21 6 = some (.int (i32 (0))) := eL21 ▸ jg_ne (by decide) g17 rfl
              have g28 : jGet L21 4 = some (rv (F (ot) (14 : Int))) := eL21 ▸ jg_eq
              clear eL21
              refine jx_ld (pc' := 116) (l' := L21) (st' := [rv (ah)]) rfl (jl_rv g26) ?_
              refine cx_gr (pc' := 119) (c := 7) (q := 8) (v := F (ah) (8 : Int)) rfl rfl (by decide) (by decide) rfl rfl ho3.1 ho3.2 (show Fx (ah) (8 : Int) = F (ah) (8 : Int) from hMx _ _ ho3.1 (own_z ho3.1) (by rw [ho3.2]; rfl)) ?_
              have y29 : F (ah) (8 : Int) = 0 ∨ (own m (F (ah) (8 : Int)) ∧ tg (F (ah) (8 : Int)) = 8) := by have z := HC_r (c := 7) (q := 8) hCx ho3.1 ho3.2 (by decide) rfl; rw [show Fx (ah) ((8 : Nat) : Int) = F (ah) (8 : Int) from (show Fx (ah) (8 : Int) = F (ah) (8 : Int) from hMx _ _ ho3.1 (own_z ho3.1) (by rw [ho3.2]; rfl))] at z; exact z
              have z30 := mz_n hC c_NT sx_ah (own_z ho3.1)
              refine jx_ld (pc' := 121) (l' := jSto1 L21 5 (rv (F (ah) (8 : Int)))) (st' := []) rfl (js_rv (by decide)) ?_
              obtain ⟨L31, eL31⟩ : ∃ q : jL, q = jSto1 L21 5 (rv (F (ah) (8 : Int))) := ⟨_, rfl⟩
              rw [← eL31]
              have g32 : jGet L31 0 = some (rv (me)) := eL31 ▸ jg_nr (by decide) g22
              have g33 : jGet L31 1 = some (rv (cl)) := eL31 ▸ jg_nr (by decide) g23
              have g34 : jGet L31 2 = some (rv (ag)) := eL31 ▸ jg_nr (by decide) g24
              have g35 : jGet L31 3 = some (rv (pm)) := eL31 ▸ jg_nr (by decide) g25
              have g36 : jGet L31 6 = some (.int (i32 (0))) := eL31 ▸ jg_ne (by decide) g27 rfl
              have g37 : jGet L31 4 = some (rv (F (ot) (14 : Int))) := eL31 ▸ jg_nr (by decide) g28
              have g38 : jGet L31 5 = some (rv (F (ah) (8 : Int))) := eL31 ▸ jg_eq
              clear eL31
              refine jx_go (tg := 15) rfl rfl ?_
              exact ih _ (by omega) L31 Fx (F (ot) (14 : Int)) (F (ah) (8 : Int)) rfl g32 g33 g34 g35 g37 g38 hCx hMx y19 y29 (SN_w (SN_n hC c_NT sx_ah (own_z ho3.1)) (by omega))
            · have _q := h18
              exact absurd h18 (by omega)
          · have _q := h9
            refine jx_ld (pc' := 42) (l' := L) (st' := [rv (ah)]) rfl (jl_rv gL_5) ?_
            refine cx_gr (pc' := 45) (c := 7) (q := 3) (v := F (ah) (3 : Int)) rfl rfl (by decide) (by decide) rfl rfl ho3.1 ho3.2 (show Fx (ah) (3 : Int) = F (ah) (3 : Int) from hMx _ _ ho3.1 (own_z ho3.1) (by rw [ho3.2]; rfl)) ?_
            have y39 : F (ah) (3 : Int) = 0 ∨ (own m (F (ah) (3 : Int)) ∧ tg (F (ah) (3 : Int)) = 7) := by have z := HC_r (c := 7) (q := 3) hCx ho3.1 ho3.2 (by decide) rfl; rw [show Fx (ah) ((3 : Nat) : Int) = F (ah) (3 : Int) from (show Fx (ah) (3 : Int) = F (ah) (3 : Int) from hMx _ _ ho3.1 (own_z ho3.1) (by rw [ho3.2]; rfl))] at z; exact z
            refine jx_ld (pc' := 46) (l' := L) (st' := [rv (ag), rv (F (ah) (3 : Int))]) rfl (jl_rvn gL_2) ?_
            refine cx_gr (pc' := 49) (c := 7) (q := 3) (v := F (ag) (3 : Int)) rfl rfl (by decide) (by decide) rfl rfl o_ag t_ag (show Fx (ag) (3 : Int) = F (ag) (3 : Int) from hMx _ _ o_ag (own_z o_ag) (by rw [t_ag]; rfl)) ?_
            have y40 : F (ag) (3 : Int) = 0 ∨ (own m (F (ag) (3 : Int)) ∧ tg (F (ag) (3 : Int)) = 7) := by have z := HC_r (c := 7) (q := 3) hCx o_ag t_ag (by decide) rfl; rw [show Fx (ag) ((3 : Nat) : Int) = F (ag) (3 : Int) from (show Fx (ag) (3 : Int) = F (ag) (3 : Int) from hMx _ _ o_ag (own_z o_ag) (by rw [t_ag]; rfl))] at z; exact z
            refine cx_ane (pc' := 52) (tg' := 66) rfl rfl rfl (y40.imp_right (fun h => h.1.1)) (y39.imp_right (fun h => h.1.1)) (fun h41 => ?_) (fun h41 => ?_)
            · have _q := h41
              refine jx_ar (pc' := 67) (st' := [.int (i32 (0))]) rfl rfl rfl rfl ?_
              refine jx_ld (pc' := 69) (l' := jSto1 L 6 (.int (i32 (0)))) (st' := []) rfl rfl ?_
              obtain ⟨L42, eL42⟩ : ∃ q : jL, q = jSto1 L 6 (.int (i32 (0))) := ⟨_, rfl⟩
              rw [← eL42]
              have g43 : jGet L42 0 = some (rv (me)) := eL42 ▸ jg_nr (by decide) gL_0
              have g44 : jGet L42 1 = some (rv (cl)) := eL42 ▸ jg_nr (by decide) gL_1
              have g45 : jGet L42 2 = some (rv (ag)) := eL42 ▸ jg_nr (by decide) gL_2
              have g46 : jGet L42 3 = some (rv (pm)) := eL42 ▸ jg_nr (by decide) gL_3
              have g47 : jGet L42 4 = some (rv (ot)) := eL42 ▸ jg_nr (by decide) gL_4
              have g48 : jGet L42 5 = some (rv (ah)) := eL42 ▸ jg_nr (by decide) gL_5
              have g49 : jGet L42 6 = some (.int (i32 (0))) := eL42 ▸ jg_eq
              clear eL42
              refine jx_ld (pc' := 71) (l' := L42) (st' := [.int (i32 (0))]) rfl (jl_iload g49) ?_
              refine jx_if_eq (pc' := 74) (tg := 107) rfl rfl rfl (by decide) (by decide) (fun h50 => ?_) (fun h50 => ?_)
              · have _q := h50
                refine jx_ld (pc' := 109) (l' := L42) (st' := [rv (ot)]) rfl (jl_rv g47) ?_
                refine cx_gr (pc' := 112) (c := 6) (q := 14) (v := F (ot) (14 : Int)) rfl rfl (by decide) (by decide) rfl rfl ho7.1 ho7.2 (show Fx (ot) (14 : Int) = F (ot) (14 : Int) from hMx _ _ ho7.1 (own_z ho7.1) (by rw [ho7.2]; rfl)) ?_
                have y51 : F (ot) (14 : Int) = 0 ∨ (own m (F (ot) (14 : Int)) ∧ tg (F (ot) (14 : Int)) = 7) := by have z := HC_r (c := 6) (q := 14) hCx ho7.1 ho7.2 (by decide) rfl; rw [show Fx (ot) ((14 : Nat) : Int) = F (ot) (14 : Int) from (show Fx (ot) (14 : Int) = F (ot) (14 : Int) from hMx _ _ ho7.1 (own_z ho7.1) (by rw [ho7.2]; rfl))] at z; exact z
                have z52 := mz_a hC c_NT ho7.1 ho7.2
                refine jx_ld (pc' := 114) (l' := jSto1 L42 4 (rv (F (ot) (14 : Int)))) (st' := []) rfl (js_rv (by decide)) ?_
                obtain ⟨L53, eL53⟩ : ∃ q : jL, q = jSto1 L42 4 (rv (F (ot) (14 : Int))) := ⟨_, rfl⟩
                rw [← eL53]
                have g54 : jGet L53 0 = some (rv (me)) := eL53 ▸ jg_nr (by decide) g43
                have g55 : jGet L53 1 = some (rv (cl)) := eL53 ▸ jg_nr (by decide) g44
                have g56 : jGet L53 2 = some (rv (ag)) := eL53 ▸ jg_nr (by decide) g45
                have g57 : jGet L53 3 = some (rv (pm)) := eL53 ▸ jg_nr (by decide) g46
                have g58 : jGet L53 5 = some (rv (ah)) := eL53 ▸ jg_nr (by decide) g48
                have g59 : jGet L53 6 = some (.int (i32 (0))) := eL53 ▸ jg_ne (by decide) g49 rfl
                have g60 : jGet L53 4 = some (rv (F (ot) (14 : Int))) := eL53 ▸ jg_eq
                clear eL53
                refine jx_ld (pc' := 116) (l' := L53) (st' := [rv (ah)]) rfl (jl_rv g58) ?_
                refine cx_gr (pc' := 119) (c := 7) (q := 8) (v := F (ah) (8 : Int)) rfl rfl (by decide) (by decide) rfl rfl ho3.1 ho3.2 (show Fx (ah) (8 : Int) = F (ah) (8 : Int) from hMx _ _ ho3.1 (own_z ho3.1) (by rw [ho3.2]; rfl)) ?_
                have y61 : F (ah) (8 : Int) = 0 ∨ (own m (F (ah) (8 : Int)) ∧ tg (F (ah) (8 : Int)) = 8) := by have z := HC_r (c := 7) (q := 8) hCx ho3.1 ho3.2 (by decide) rfl; rw [show Fx (ah) ((8 : Nat) : Int) = F (ah) (8 : Int) from (show Fx (ah) (8 : Int) = F (ah) (8 : Int) from hMx _ _ ho3.1 (own_z ho3.1) (by rw [ho3.2]; rfl))] at z; exact z
                have z62 := mz_n hC c_NT sx_ah (own_z ho3.1)
                refine jx_ld (pc' := 121) (l' := jSto1 L53 5 (rv (F (ah) (8 : Int)))) (st' := []) rfl (js_rv (by decide)) ?_
                obtain ⟨L63, eL63⟩ : ∃ q : jL, q = jSto1 L53 5 (rv (F (ah) (8 : Int))) := ⟨_, rfl⟩
                rw [← eL63]
                have g64 : jGet L63 0 = some (rv (me)) := eL63 ▸ jg_nr (by decide) g54
                have g65 : jGet L63 1 = some (rv (cl)) := eL63 ▸ jg_nr (by decide) g55
                have g66 : jGet L63 2 = some (rv (ag)) := eL63 ▸ jg_nr (by decide) g56
                have g67 : jGet L63 3 = some (rv (pm)) := eL63 ▸ jg_nr (by decide) g57
                have g68 : jGet L63 6 = some (.int (i32 (0))) := eL63 ▸ jg_ne (by decide) g59 rfl
                have g69 : jGet L63 4 = some (rv (F (ot) (14 : Int))) := eL63 ▸ jg_nr (by decide) g60
                have g70 : jGet L63 5 = some (rv (F (ah) (8 : Int))) := eL63 ▸ jg_eq
                clear eL63
                refine jx_go (tg := 15) rfl rfl ?_
                exact ih _ (by omega) L63 Fx (F (ot) (14 : Int)) (F (ah) (8 : Int)) rfl g64 g65 g66 g67 g69 g70 hCx hMx y51 y61 (SN_w (SN_n hC c_NT sx_ah (own_z ho3.1)) (by omega))
              · have _q := h50
                exact absurd h50 (by omega)
            · have _q := h41
              refine jx_ld (pc' := 54) (l' := L) (st' := [rv (ah)]) rfl (jl_rv gL_5) ?_
              refine jx_ld (pc' := 55) (l' := L) (st' := [rv (ag), rv (ah)]) rfl (jl_rvn gL_2) ?_
              refine jx_ar (pc' := 56) (st' := .null :: [rv (ag), rv (ah)]) rfl rfl rfl rfl ?_
              rw [← rv_0]
              refine cx_st (st := []) (as := [rv (ah), rv (ag), rv (0)]) rfl rfl rfl ⟨rfl, (Nat.le_of_ble_eq_true rfl)⟩ rfl (k_LUses_meets (dd := d) (R := R) (m := m) (tg := tg) (ln := ln) (F := Fx) (p := ah) (o := ag) (ix := 0) (hd := by omega) (hC := hCx) (o_p := ho3.1) (t_p := ho3.2) (o_o := o_ag) (t_o := t_ag) (y_ix := (Or.inl rfl))) (fun o V' hq => ?_)
              obtain ⟨r71, rfl, rfl, b72, -⟩ := hq
              refine Or.inr (Or.inl ⟨_, rfl, ?_⟩)
              refine jx_if_eq (pc' := 62) (tg := 66) rfl rfl rfl (by omega) (by omega) (fun h73 => ?_) (fun h73 => ?_)
              · have _q := h73
                refine jx_ar (pc' := 67) (st' := [.int (i32 (0))]) rfl rfl rfl rfl ?_
                refine jx_ld (pc' := 69) (l' := jSto1 L 6 (.int (i32 (0)))) (st' := []) rfl rfl ?_
                obtain ⟨L74, eL74⟩ : ∃ q : jL, q = jSto1 L 6 (.int (i32 (0))) := ⟨_, rfl⟩
                rw [← eL74]
                have g75 : jGet L74 0 = some (rv (me)) := eL74 ▸ jg_nr (by decide) gL_0
                have g76 : jGet L74 1 = some (rv (cl)) := eL74 ▸ jg_nr (by decide) gL_1
                have g77 : jGet L74 2 = some (rv (ag)) := eL74 ▸ jg_nr (by decide) gL_2
                have g78 : jGet L74 3 = some (rv (pm)) := eL74 ▸ jg_nr (by decide) gL_3
                have g79 : jGet L74 4 = some (rv (ot)) := eL74 ▸ jg_nr (by decide) gL_4
                have g80 : jGet L74 5 = some (rv (ah)) := eL74 ▸ jg_nr (by decide) gL_5
                have g81 : jGet L74 6 = some (.int (i32 (0))) := eL74 ▸ jg_eq
                clear eL74
                refine jx_ld (pc' := 71) (l' := L74) (st' := [.int (i32 (0))]) rfl (jl_iload g81) ?_
                refine jx_if_eq (pc' := 74) (tg := 107) rfl rfl rfl (by decide) (by decide) (fun h82 => ?_) (fun h82 => ?_)
                · have _q := h82
                  refine jx_ld (pc' := 109) (l' := L74) (st' := [rv (ot)]) rfl (jl_rv g79) ?_
                  refine cx_gr (pc' := 112) (c := 6) (q := 14) (v := F (ot) (14 : Int)) rfl rfl (by decide) (by decide) rfl rfl ho7.1 ho7.2 (show Fx (ot) (14 : Int) = F (ot) (14 : Int) from hMx _ _ ho7.1 (own_z ho7.1) (by rw [ho7.2]; rfl)) ?_
                  have y83 : F (ot) (14 : Int) = 0 ∨ (own m (F (ot) (14 : Int)) ∧ tg (F (ot) (14 : Int)) = 7) := by have z := HC_r (c := 6) (q := 14) hCx ho7.1 ho7.2 (by decide) rfl; rw [show Fx (ot) ((14 : Nat) : Int) = F (ot) (14 : Int) from (show Fx (ot) (14 : Int) = F (ot) (14 : Int) from hMx _ _ ho7.1 (own_z ho7.1) (by rw [ho7.2]; rfl))] at z; exact z
                  have z84 := mz_a hC c_NT ho7.1 ho7.2
                  refine jx_ld (pc' := 114) (l' := jSto1 L74 4 (rv (F (ot) (14 : Int)))) (st' := []) rfl (js_rv (by decide)) ?_
                  obtain ⟨L85, eL85⟩ : ∃ q : jL, q = jSto1 L74 4 (rv (F (ot) (14 : Int))) := ⟨_, rfl⟩
                  rw [← eL85]
                  have g86 : jGet L85 0 = some (rv (me)) := eL85 ▸ jg_nr (by decide) g75
                  have g87 : jGet L85 1 = some (rv (cl)) := eL85 ▸ jg_nr (by decide) g76
                  have g88 : jGet L85 2 = some (rv (ag)) := eL85 ▸ jg_nr (by decide) g77
                  have g89 : jGet L85 3 = some (rv (pm)) := eL85 ▸ jg_nr (by decide) g78
                  have g90 : jGet L85 5 = some (rv (ah)) := eL85 ▸ jg_nr (by decide) g80
                  have g91 : jGet L85 6 = some (.int (i32 (0))) := eL85 ▸ jg_ne (by decide) g81 rfl
                  have g92 : jGet L85 4 = some (rv (F (ot) (14 : Int))) := eL85 ▸ jg_eq
                  clear eL85
                  refine jx_ld (pc' := 116) (l' := L85) (st' := [rv (ah)]) rfl (jl_rv g90) ?_
                  refine cx_gr (pc' := 119) (c := 7) (q := 8) (v := F (ah) (8 : Int)) rfl rfl (by decide) (by decide) rfl rfl ho3.1 ho3.2 (show Fx (ah) (8 : Int) = F (ah) (8 : Int) from hMx _ _ ho3.1 (own_z ho3.1) (by rw [ho3.2]; rfl)) ?_
                  have y93 : F (ah) (8 : Int) = 0 ∨ (own m (F (ah) (8 : Int)) ∧ tg (F (ah) (8 : Int)) = 8) := by have z := HC_r (c := 7) (q := 8) hCx ho3.1 ho3.2 (by decide) rfl; rw [show Fx (ah) ((8 : Nat) : Int) = F (ah) (8 : Int) from (show Fx (ah) (8 : Int) = F (ah) (8 : Int) from hMx _ _ ho3.1 (own_z ho3.1) (by rw [ho3.2]; rfl))] at z; exact z
                  have z94 := mz_n hC c_NT sx_ah (own_z ho3.1)
                  refine jx_ld (pc' := 121) (l' := jSto1 L85 5 (rv (F (ah) (8 : Int)))) (st' := []) rfl (js_rv (by decide)) ?_
                  obtain ⟨L95, eL95⟩ : ∃ q : jL, q = jSto1 L85 5 (rv (F (ah) (8 : Int))) := ⟨_, rfl⟩
                  rw [← eL95]
                  have g96 : jGet L95 0 = some (rv (me)) := eL95 ▸ jg_nr (by decide) g86
                  have g97 : jGet L95 1 = some (rv (cl)) := eL95 ▸ jg_nr (by decide) g87
                  have g98 : jGet L95 2 = some (rv (ag)) := eL95 ▸ jg_nr (by decide) g88
                  have g99 : jGet L95 3 = some (rv (pm)) := eL95 ▸ jg_nr (by decide) g89
                  have g100 : jGet L95 6 = some (.int (i32 (0))) := eL95 ▸ jg_ne (by decide) g91 rfl
                  have g101 : jGet L95 4 = some (rv (F (ot) (14 : Int))) := eL95 ▸ jg_nr (by decide) g92
                  have g102 : jGet L95 5 = some (rv (F (ah) (8 : Int))) := eL95 ▸ jg_eq
                  clear eL95
                  refine jx_go (tg := 15) rfl rfl ?_
                  exact ih _ (by omega) L95 Fx (F (ot) (14 : Int)) (F (ah) (8 : Int)) rfl g96 g97 g98 g99 g101 g102 hCx hMx y83 y93 (SN_w (SN_n hC c_NT sx_ah (own_z ho3.1)) (by omega))
                · have _q := h82
                  exact absurd h82 (by omega)
              · have _q := h73
                refine jx_ar (pc' := 63) (st' := [.int (i32 (1))]) rfl rfl rfl rfl ?_
                refine jx_go (tg := 67) rfl rfl ?_
                refine jx_ld (pc' := 69) (l' := jSto1 L 6 (.int (i32 (1)))) (st' := []) rfl rfl ?_
                obtain ⟨L103, eL103⟩ : ∃ q : jL, q = jSto1 L 6 (.int (i32 (1))) := ⟨_, rfl⟩
                rw [← eL103]
                have g104 : jGet L103 0 = some (rv (me)) := eL103 ▸ jg_nr (by decide) gL_0
                have g105 : jGet L103 1 = some (rv (cl)) := eL103 ▸ jg_nr (by decide) gL_1
                have g106 : jGet L103 2 = some (rv (ag)) := eL103 ▸ jg_nr (by decide) gL_2
                have g107 : jGet L103 3 = some (rv (pm)) := eL103 ▸ jg_nr (by decide) gL_3
                have g108 : jGet L103 4 = some (rv (ot)) := eL103 ▸ jg_nr (by decide) gL_4
                have g109 : jGet L103 5 = some (rv (ah)) := eL103 ▸ jg_nr (by decide) gL_5
                have g110 : jGet L103 6 = some (.int (i32 (1))) := eL103 ▸ jg_eq
                clear eL103
                refine jx_ld (pc' := 71) (l' := L103) (st' := [.int (i32 (1))]) rfl (jl_iload g110) ?_
                refine jx_if_eq (pc' := 74) (tg := 107) rfl rfl rfl (by decide) (by decide) (fun h111 => ?_) (fun h111 => ?_)
                · have _q := h111
                  exact absurd h111 (by omega)
                · have _q := h111
                  refine jx_ld (pc' := 75) (l' := L103) (st' := [rv (ag)]) rfl (jl_rvn g106) ?_
                  refine cx_gr (pc' := 78) (c := 7) (q := 3) (v := F (ag) (3 : Int)) rfl rfl (by decide) (by decide) rfl rfl o_ag t_ag (show Fx (ag) (3 : Int) = F (ag) (3 : Int) from hMx _ _ o_ag (own_z o_ag) (by rw [t_ag]; rfl)) ?_
                  have hn112 : F (ag) (3 : Int) ≠ 0 := p_1
                  have ho113 : own m (F (ag) (3 : Int)) ∧ tg (F (ag) (3 : Int)) = 7 := y40.resolve_left hn112
                  refine cx_vi (c := 6) (a := F (ag) (3 : Int)) (st := []) (as := []) rfl rfl rfl ho113.1 ho113.2 (by decide) rfl ⟨rfl, rfl, (Nat.le_of_ble_eq_true rfl)⟩ rfl (k_LName_isChannel (dd := d) (R := R) (m := m) (tg := tg) (ln := ln) (F := Fx) (me := F (ag) (3 : Int)) (hd := by omega) (hC := hCx) (o_me := ho113.1) (t_me := ho113.2)) (fun o V' hq => ?_)
                  obtain ⟨r114, rfl, rfl, b115, -⟩ := hq
                  refine Or.inr (Or.inl ⟨_, rfl, ?_⟩)
                  refine jx_if_ne (pc' := 84) (tg := 99) rfl rfl rfl (by omega) (by omega) (fun h116 => ?_) (fun h116 => ?_)
                  · have _q := h116
                    refine jx_ld (pc' := 100) (l' := L103) (st' := [rv (me)]) rfl (jl_rvn g104) ?_
                    refine jx_ld (pc' := 101) (l' := L103) (st' := [rv (cl), rv (me)]) rfl (jl_rvn g105) ?_
                    refine cx_gi (pc' := 104) (c := 7) (q := 1) (v := F (cl) (1 : Int)) rfl rfl (by decide) (by decide) (Or.inl rfl) rfl o_cl t_cl (show Fx (cl) (1 : Int) = F (cl) (1 : Int) from hMx _ _ o_cl (own_z o_cl) (by rw [t_cl]; rfl)) ?_
                    have b117 : (-2147483648 : Int) ≤ F (cl) (1 : Int) ∧ F (cl) (1 : Int) ≤ 2147483647 := by have z := HC_i (c := 7) (q := 1) hCx o_cl t_cl (by decide) rfl; rw [show Fx (cl) ((1 : Nat) : Int) = F (cl) (1 : Int) from (show Fx (cl) (1 : Int) = F (cl) (1 : Int) from hMx _ _ o_cl (own_z o_cl) (by rw [t_cl]; rfl))] at z; exact z
                    refine cx_vi (c := 11) (a := me) (st := []) (as := [.int (i32 (F (cl) (1 : Int)))]) rfl rfl rfl o_me t_me (by decide) rfl ⟨rfl, rfl, (Nat.le_of_ble_eq_true rfl)⟩ rfl (k_LUses_blame (dd := d) (R := R) (m := m) (tg := tg) (ln := ln) (F := Fx) (me := me) (l := F (cl) (1 : Int)) (hd := by omega) (hC := hCx) (o_me := o_me) (t_me := t_me) (h_l := by omega)) (fun o V' hq => ?_)
                    obtain ⟨F118, rfl, rfl, hC119, hM120, -⟩ := hq
                    have hM121 : Fq 0 [(12, 4)] m tg F F118 := Fq_t (ln := ln) (ln1 := ln) hMx Ex_r hM120 (by decide) (Or.inl rfl)
                    refine Or.inl ⟨rfl, ?_⟩
                    refine jx_ld (pc' := 109) (l' := L103) (st' := [rv (ot)]) rfl (jl_rv g108) ?_
                    refine cx_gr (pc' := 112) (c := 6) (q := 14) (v := F (ot) (14 : Int)) rfl rfl (by decide) (by decide) rfl rfl ho7.1 ho7.2 ((show F118 (ot) (14 : Int) = Fx (ot) (14 : Int) from hM120 _ _ ho7.1 (own_z ho7.1) (by rw [ho7.2]; rfl)).trans (show Fx (ot) (14 : Int) = F (ot) (14 : Int) from hMx _ _ ho7.1 (own_z ho7.1) (by rw [ho7.2]; rfl))) ?_
                    have y122 : F (ot) (14 : Int) = 0 ∨ (own m (F (ot) (14 : Int)) ∧ tg (F (ot) (14 : Int)) = 7) := by have z := HC_r (c := 6) (q := 14) hC119 ho7.1 ho7.2 (by decide) rfl; rw [show F118 (ot) ((14 : Nat) : Int) = F (ot) (14 : Int) from ((show F118 (ot) (14 : Int) = Fx (ot) (14 : Int) from hM120 _ _ ho7.1 (own_z ho7.1) (by rw [ho7.2]; rfl)).trans (show Fx (ot) (14 : Int) = F (ot) (14 : Int) from hMx _ _ ho7.1 (own_z ho7.1) (by rw [ho7.2]; rfl)))] at z; exact z
                    have z123 := mz_a hC c_NT ho7.1 ho7.2
                    refine jx_ld (pc' := 114) (l' := jSto1 L103 4 (rv (F (ot) (14 : Int)))) (st' := []) rfl (js_rv (by decide)) ?_
                    obtain ⟨L124, eL124⟩ : ∃ q : jL, q = jSto1 L103 4 (rv (F (ot) (14 : Int))) := ⟨_, rfl⟩
                    rw [← eL124]
                    have g125 : jGet L124 0 = some (rv (me)) := eL124 ▸ jg_nr (by decide) g104
                    have g126 : jGet L124 1 = some (rv (cl)) := eL124 ▸ jg_nr (by decide) g105
                    have g127 : jGet L124 2 = some (rv (ag)) := eL124 ▸ jg_nr (by decide) g106
                    have g128 : jGet L124 3 = some (rv (pm)) := eL124 ▸ jg_nr (by decide) g107
                    have g129 : jGet L124 5 = some (rv (ah)) := eL124 ▸ jg_nr (by decide) g109
                    have g130 : jGet L124 6 = some (.int (i32 (1))) := eL124 ▸ jg_ne (by decide) g110 rfl
                    have g131 : jGet L124 4 = some (rv (F (ot) (14 : Int))) := eL124 ▸ jg_eq
                    clear eL124
                    refine jx_ld (pc' := 116) (l' := L124) (st' := [rv (ah)]) rfl (jl_rv g129) ?_
                    refine cx_gr (pc' := 119) (c := 7) (q := 8) (v := F (ah) (8 : Int)) rfl rfl (by decide) (by decide) rfl rfl ho3.1 ho3.2 ((show F118 (ah) (8 : Int) = Fx (ah) (8 : Int) from hM120 _ _ ho3.1 (own_z ho3.1) (by rw [ho3.2]; rfl)).trans (show Fx (ah) (8 : Int) = F (ah) (8 : Int) from hMx _ _ ho3.1 (own_z ho3.1) (by rw [ho3.2]; rfl))) ?_
                    have y132 : F (ah) (8 : Int) = 0 ∨ (own m (F (ah) (8 : Int)) ∧ tg (F (ah) (8 : Int)) = 8) := by have z := HC_r (c := 7) (q := 8) hC119 ho3.1 ho3.2 (by decide) rfl; rw [show F118 (ah) ((8 : Nat) : Int) = F (ah) (8 : Int) from ((show F118 (ah) (8 : Int) = Fx (ah) (8 : Int) from hM120 _ _ ho3.1 (own_z ho3.1) (by rw [ho3.2]; rfl)).trans (show Fx (ah) (8 : Int) = F (ah) (8 : Int) from hMx _ _ ho3.1 (own_z ho3.1) (by rw [ho3.2]; rfl)))] at z; exact z
                    have z133 := mz_n hC c_NT sx_ah (own_z ho3.1)
                    refine jx_ld (pc' := 121) (l' := jSto1 L124 5 (rv (F (ah) (8 : Int)))) (st' := []) rfl (js_rv (by decide)) ?_
                    obtain ⟨L134, eL134⟩ : ∃ q : jL, q = jSto1 L124 5 (rv (F (ah) (8 : Int))) := ⟨_, rfl⟩
                    rw [← eL134]
                    have g135 : jGet L134 0 = some (rv (me)) := eL134 ▸ jg_nr (by decide) g125
                    have g136 : jGet L134 1 = some (rv (cl)) := eL134 ▸ jg_nr (by decide) g126
                    have g137 : jGet L134 2 = some (rv (ag)) := eL134 ▸ jg_nr (by decide) g127
                    have g138 : jGet L134 3 = some (rv (pm)) := eL134 ▸ jg_nr (by decide) g128
                    have g139 : jGet L134 6 = some (.int (i32 (1))) := eL134 ▸ jg_ne (by decide) g130 rfl
                    have g140 : jGet L134 4 = some (rv (F (ot) (14 : Int))) := eL134 ▸ jg_nr (by decide) g131
                    have g141 : jGet L134 5 = some (rv (F (ah) (8 : Int))) := eL134 ▸ jg_eq
                    clear eL134
                    refine jx_go (tg := 15) rfl rfl ?_
                    exact ih _ (by omega) L134 F118 (F (ot) (14 : Int)) (F (ah) (8 : Int)) rfl g135 g136 g137 g138 g140 g141 hC119 hM121 y122 y132 (SN_w (SN_n hC c_NT sx_ah (own_z ho3.1)) (by omega))
                  · have _q := h116
                    refine jx_ld (pc' := 86) (l' := L103) (st' := [rv (ot)]) rfl (jl_rv g108) ?_
                    refine cx_gi (pc' := 89) (c := 6) (q := 11) (v := F (ot) (11 : Int)) rfl rfl (by decide) (by decide) (Or.inl rfl) rfl ho7.1 ho7.2 (show Fx (ot) (11 : Int) = F (ot) (11 : Int) from hMx _ _ ho7.1 (own_z ho7.1) (by rw [ho7.2]; rfl)) ?_
                    have b142 : (-2147483648 : Int) ≤ F (ot) (11 : Int) ∧ F (ot) (11 : Int) ≤ 2147483647 := by have z := HC_i (c := 6) (q := 11) hCx ho7.1 ho7.2 (by decide) rfl; rw [show Fx (ot) ((11 : Nat) : Int) = F (ot) (11 : Int) from (show Fx (ot) (11 : Int) = F (ot) (11 : Int) from hMx _ _ ho7.1 (own_z ho7.1) (by rw [ho7.2]; rfl))] at z; exact z
                    refine jx_ld (pc' := 90) (l' := L103) (st' := [rv (pm), .int (i32 (F (ot) (11 : Int)))]) rfl (jl_rvn g107) ?_
                    refine cx_gi (pc' := 93) (c := 6) (q := 11) (v := F (pm) (11 : Int)) rfl rfl (by decide) (by decide) (Or.inl rfl) rfl o_pm t_pm (show Fx (pm) (11 : Int) = F (pm) (11 : Int) from hMx _ _ o_pm (own_z o_pm) (by rw [t_pm]; rfl)) ?_
                    have b143 : (-2147483648 : Int) ≤ F (pm) (11 : Int) ∧ F (pm) (11 : Int) ≤ 2147483647 := by have z := HC_i (c := 6) (q := 11) hCx o_pm t_pm (by decide) rfl; rw [show Fx (pm) ((11 : Nat) : Int) = F (pm) (11 : Int) from (show Fx (pm) (11 : Int) = F (pm) (11 : Int) from hMx _ _ o_pm (own_z o_pm) (by rw [t_pm]; rfl))] at z; exact z
                    refine cx_st (st := []) (as := [.int (i32 (F (ot) (11 : Int))), .int (i32 (F (pm) (11 : Int)))]) rfl rfl rfl ⟨rfl, (Nat.le_of_ble_eq_true rfl)⟩ rfl (k_LUses_clash (dd := d) (R := R) (m := m) (tg := tg) (ln := ln) (F := Fx) (a := F (ot) (11 : Int)) (b := F (pm) (11 : Int)) (hd := by omega) (hC := hCx) (h_a := by omega) (h_b := by omega)) (fun o V' hq => ?_)
                    obtain ⟨r144, rfl, rfl, b145, -⟩ := hq
                    refine Or.inr (Or.inl ⟨_, rfl, ?_⟩)
                    refine jx_if_eq (pc' := 99) (tg := 107) rfl rfl rfl (by omega) (by omega) (fun h146 => ?_) (fun h146 => ?_)
                    · have _q := h146
                      refine jx_ld (pc' := 109) (l' := L103) (st' := [rv (ot)]) rfl (jl_rv g108) ?_
                      refine cx_gr (pc' := 112) (c := 6) (q := 14) (v := F (ot) (14 : Int)) rfl rfl (by decide) (by decide) rfl rfl ho7.1 ho7.2 (show Fx (ot) (14 : Int) = F (ot) (14 : Int) from hMx _ _ ho7.1 (own_z ho7.1) (by rw [ho7.2]; rfl)) ?_
                      have y147 : F (ot) (14 : Int) = 0 ∨ (own m (F (ot) (14 : Int)) ∧ tg (F (ot) (14 : Int)) = 7) := by have z := HC_r (c := 6) (q := 14) hCx ho7.1 ho7.2 (by decide) rfl; rw [show Fx (ot) ((14 : Nat) : Int) = F (ot) (14 : Int) from (show Fx (ot) (14 : Int) = F (ot) (14 : Int) from hMx _ _ ho7.1 (own_z ho7.1) (by rw [ho7.2]; rfl))] at z; exact z
                      have z148 := mz_a hC c_NT ho7.1 ho7.2
                      refine jx_ld (pc' := 114) (l' := jSto1 L103 4 (rv (F (ot) (14 : Int)))) (st' := []) rfl (js_rv (by decide)) ?_
                      obtain ⟨L149, eL149⟩ : ∃ q : jL, q = jSto1 L103 4 (rv (F (ot) (14 : Int))) := ⟨_, rfl⟩
                      rw [← eL149]
                      have g150 : jGet L149 0 = some (rv (me)) := eL149 ▸ jg_nr (by decide) g104
                      have g151 : jGet L149 1 = some (rv (cl)) := eL149 ▸ jg_nr (by decide) g105
                      have g152 : jGet L149 2 = some (rv (ag)) := eL149 ▸ jg_nr (by decide) g106
                      have g153 : jGet L149 3 = some (rv (pm)) := eL149 ▸ jg_nr (by decide) g107
                      have g154 : jGet L149 5 = some (rv (ah)) := eL149 ▸ jg_nr (by decide) g109
                      have g155 : jGet L149 6 = some (.int (i32 (1))) := eL149 ▸ jg_ne (by decide) g110 rfl
                      have g156 : jGet L149 4 = some (rv (F (ot) (14 : Int))) := eL149 ▸ jg_eq
                      clear eL149
                      refine jx_ld (pc' := 116) (l' := L149) (st' := [rv (ah)]) rfl (jl_rv g154) ?_
                      refine cx_gr (pc' := 119) (c := 7) (q := 8) (v := F (ah) (8 : Int)) rfl rfl (by decide) (by decide) rfl rfl ho3.1 ho3.2 (show Fx (ah) (8 : Int) = F (ah) (8 : Int) from hMx _ _ ho3.1 (own_z ho3.1) (by rw [ho3.2]; rfl)) ?_
                      have y157 : F (ah) (8 : Int) = 0 ∨ (own m (F (ah) (8 : Int)) ∧ tg (F (ah) (8 : Int)) = 8) := by have z := HC_r (c := 7) (q := 8) hCx ho3.1 ho3.2 (by decide) rfl; rw [show Fx (ah) ((8 : Nat) : Int) = F (ah) (8 : Int) from (show Fx (ah) (8 : Int) = F (ah) (8 : Int) from hMx _ _ ho3.1 (own_z ho3.1) (by rw [ho3.2]; rfl))] at z; exact z
                      have z158 := mz_n hC c_NT sx_ah (own_z ho3.1)
                      refine jx_ld (pc' := 121) (l' := jSto1 L149 5 (rv (F (ah) (8 : Int)))) (st' := []) rfl (js_rv (by decide)) ?_
                      obtain ⟨L159, eL159⟩ : ∃ q : jL, q = jSto1 L149 5 (rv (F (ah) (8 : Int))) := ⟨_, rfl⟩
                      rw [← eL159]
                      have g160 : jGet L159 0 = some (rv (me)) := eL159 ▸ jg_nr (by decide) g150
                      have g161 : jGet L159 1 = some (rv (cl)) := eL159 ▸ jg_nr (by decide) g151
                      have g162 : jGet L159 2 = some (rv (ag)) := eL159 ▸ jg_nr (by decide) g152
                      have g163 : jGet L159 3 = some (rv (pm)) := eL159 ▸ jg_nr (by decide) g153
                      have g164 : jGet L159 6 = some (.int (i32 (1))) := eL159 ▸ jg_ne (by decide) g155 rfl
                      have g165 : jGet L159 4 = some (rv (F (ot) (14 : Int))) := eL159 ▸ jg_nr (by decide) g156
                      have g166 : jGet L159 5 = some (rv (F (ah) (8 : Int))) := eL159 ▸ jg_eq
                      clear eL159
                      refine jx_go (tg := 15) rfl rfl ?_
                      exact ih _ (by omega) L159 Fx (F (ot) (14 : Int)) (F (ah) (8 : Int)) rfl g160 g161 g162 g163 g165 g166 hCx hMx y147 y157 (SN_w (SN_n hC c_NT sx_ah (own_z ho3.1)) (by omega))
                    · have _q := h146
                      refine jx_ld (pc' := 100) (l' := L103) (st' := [rv (me)]) rfl (jl_rvn g104) ?_
                      refine jx_ld (pc' := 101) (l' := L103) (st' := [rv (cl), rv (me)]) rfl (jl_rvn g105) ?_
                      refine cx_gi (pc' := 104) (c := 7) (q := 1) (v := F (cl) (1 : Int)) rfl rfl (by decide) (by decide) (Or.inl rfl) rfl o_cl t_cl (show Fx (cl) (1 : Int) = F (cl) (1 : Int) from hMx _ _ o_cl (own_z o_cl) (by rw [t_cl]; rfl)) ?_
                      have b167 : (-2147483648 : Int) ≤ F (cl) (1 : Int) ∧ F (cl) (1 : Int) ≤ 2147483647 := by have z := HC_i (c := 7) (q := 1) hCx o_cl t_cl (by decide) rfl; rw [show Fx (cl) ((1 : Nat) : Int) = F (cl) (1 : Int) from (show Fx (cl) (1 : Int) = F (cl) (1 : Int) from hMx _ _ o_cl (own_z o_cl) (by rw [t_cl]; rfl))] at z; exact z
                      refine cx_vi (c := 11) (a := me) (st := []) (as := [.int (i32 (F (cl) (1 : Int)))]) rfl rfl rfl o_me t_me (by decide) rfl ⟨rfl, rfl, (Nat.le_of_ble_eq_true rfl)⟩ rfl (k_LUses_blame (dd := d) (R := R) (m := m) (tg := tg) (ln := ln) (F := Fx) (me := me) (l := F (cl) (1 : Int)) (hd := by omega) (hC := hCx) (o_me := o_me) (t_me := t_me) (h_l := by omega)) (fun o V' hq => ?_)
                      obtain ⟨F168, rfl, rfl, hC169, hM170, -⟩ := hq
                      have hM171 : Fq 0 [(12, 4)] m tg F F168 := Fq_t (ln := ln) (ln1 := ln) hMx Ex_r hM170 (by decide) (Or.inl rfl)
                      refine Or.inl ⟨rfl, ?_⟩
                      refine jx_ld (pc' := 109) (l' := L103) (st' := [rv (ot)]) rfl (jl_rv g108) ?_
                      refine cx_gr (pc' := 112) (c := 6) (q := 14) (v := F (ot) (14 : Int)) rfl rfl (by decide) (by decide) rfl rfl ho7.1 ho7.2 ((show F168 (ot) (14 : Int) = Fx (ot) (14 : Int) from hM170 _ _ ho7.1 (own_z ho7.1) (by rw [ho7.2]; rfl)).trans (show Fx (ot) (14 : Int) = F (ot) (14 : Int) from hMx _ _ ho7.1 (own_z ho7.1) (by rw [ho7.2]; rfl))) ?_
                      have y172 : F (ot) (14 : Int) = 0 ∨ (own m (F (ot) (14 : Int)) ∧ tg (F (ot) (14 : Int)) = 7) := by have z := HC_r (c := 6) (q := 14) hC169 ho7.1 ho7.2 (by decide) rfl; rw [show F168 (ot) ((14 : Nat) : Int) = F (ot) (14 : Int) from ((show F168 (ot) (14 : Int) = Fx (ot) (14 : Int) from hM170 _ _ ho7.1 (own_z ho7.1) (by rw [ho7.2]; rfl)).trans (show Fx (ot) (14 : Int) = F (ot) (14 : Int) from hMx _ _ ho7.1 (own_z ho7.1) (by rw [ho7.2]; rfl)))] at z; exact z
                      have z173 := mz_a hC c_NT ho7.1 ho7.2
                      refine jx_ld (pc' := 114) (l' := jSto1 L103 4 (rv (F (ot) (14 : Int)))) (st' := []) rfl (js_rv (by decide)) ?_
                      obtain ⟨L174, eL174⟩ : ∃ q : jL, q = jSto1 L103 4 (rv (F (ot) (14 : Int))) := ⟨_, rfl⟩
                      rw [← eL174]
                      have g175 : jGet L174 0 = some (rv (me)) := eL174 ▸ jg_nr (by decide) g104
                      have g176 : jGet L174 1 = some (rv (cl)) := eL174 ▸ jg_nr (by decide) g105
                      have g177 : jGet L174 2 = some (rv (ag)) := eL174 ▸ jg_nr (by decide) g106
                      have g178 : jGet L174 3 = some (rv (pm)) := eL174 ▸ jg_nr (by decide) g107
                      have g179 : jGet L174 5 = some (rv (ah)) := eL174 ▸ jg_nr (by decide) g109
                      have g180 : jGet L174 6 = some (.int (i32 (1))) := eL174 ▸ jg_ne (by decide) g110 rfl
                      have g181 : jGet L174 4 = some (rv (F (ot) (14 : Int))) := eL174 ▸ jg_eq
                      clear eL174
                      refine jx_ld (pc' := 116) (l' := L174) (st' := [rv (ah)]) rfl (jl_rv g179) ?_
                      refine cx_gr (pc' := 119) (c := 7) (q := 8) (v := F (ah) (8 : Int)) rfl rfl (by decide) (by decide) rfl rfl ho3.1 ho3.2 ((show F168 (ah) (8 : Int) = Fx (ah) (8 : Int) from hM170 _ _ ho3.1 (own_z ho3.1) (by rw [ho3.2]; rfl)).trans (show Fx (ah) (8 : Int) = F (ah) (8 : Int) from hMx _ _ ho3.1 (own_z ho3.1) (by rw [ho3.2]; rfl))) ?_
                      have y182 : F (ah) (8 : Int) = 0 ∨ (own m (F (ah) (8 : Int)) ∧ tg (F (ah) (8 : Int)) = 8) := by have z := HC_r (c := 7) (q := 8) hC169 ho3.1 ho3.2 (by decide) rfl; rw [show F168 (ah) ((8 : Nat) : Int) = F (ah) (8 : Int) from ((show F168 (ah) (8 : Int) = Fx (ah) (8 : Int) from hM170 _ _ ho3.1 (own_z ho3.1) (by rw [ho3.2]; rfl)).trans (show Fx (ah) (8 : Int) = F (ah) (8 : Int) from hMx _ _ ho3.1 (own_z ho3.1) (by rw [ho3.2]; rfl)))] at z; exact z
                      have z183 := mz_n hC c_NT sx_ah (own_z ho3.1)
                      refine jx_ld (pc' := 121) (l' := jSto1 L174 5 (rv (F (ah) (8 : Int)))) (st' := []) rfl (js_rv (by decide)) ?_
                      obtain ⟨L184, eL184⟩ : ∃ q : jL, q = jSto1 L174 5 (rv (F (ah) (8 : Int))) := ⟨_, rfl⟩
                      rw [← eL184]
                      have g185 : jGet L184 0 = some (rv (me)) := eL184 ▸ jg_nr (by decide) g175
                      have g186 : jGet L184 1 = some (rv (cl)) := eL184 ▸ jg_nr (by decide) g176
                      have g187 : jGet L184 2 = some (rv (ag)) := eL184 ▸ jg_nr (by decide) g177
                      have g188 : jGet L184 3 = some (rv (pm)) := eL184 ▸ jg_nr (by decide) g178
                      have g189 : jGet L184 6 = some (.int (i32 (1))) := eL184 ▸ jg_ne (by decide) g180 rfl
                      have g190 : jGet L184 4 = some (rv (F (ot) (14 : Int))) := eL184 ▸ jg_nr (by decide) g181
                      have g191 : jGet L184 5 = some (rv (F (ah) (8 : Int))) := eL184 ▸ jg_eq
                      clear eL184
                      refine jx_go (tg := 15) rfl rfl ?_
                      exact ih _ (by omega) L184 F168 (F (ot) (14 : Int)) (F (ah) (8 : Int)) rfl g185 g186 g187 g188 g190 g191 hC169 hM171 y172 y182 (SN_w (SN_n hC c_NT sx_ah (own_z ho3.1)) (by omega))
set_option maxRecDepth 20000 in
set_option maxHeartbeats 4000000 in
theorem k_LUses_againstOthers {X : jX} {kk : Nat} {dd : Nat} {R : Nat → jC} {m : Nat} {tg ln : Int → Int} {F : Int → Int → Int} {me cl ag pm : Int} (hd : 3 * kk + 8 ≤ dd) (hC : HC 0 m tg ln F) (o_me : own m me) (t_me : tg me = 12) (o_cl : own m cl) (t_cl : tg cl = 8) (o_ag : own m ag) (t_ag : tg ag = 8) (o_pm : own m pm) (t_pm : tg pm = 7) (p_0 : F cl (3 : Int) ≠ 0) (p_1 : F ag (3 : Int) ≠ 0) (c_NT : NT m tg F) (n_cl : SN m tg F cl (kk)) : wk X dd 235 [rv me, rv cl, rv ag, rv pm] (cV R m tg ln F) (fun o V' => ∃ (F' : Int → Int → Int), V' = cV R m tg ln F' ∧ o = .inl none ∧ HC 0 m tg ln F' ∧ Fq 0 [(12, 4)] m tg F F' ∧ True) := by
  obtain ⟨d, rfl⟩ : ∃ d, dd = d + 1 := ⟨dd - 1, by omega⟩
  refine wk_of (e := jm235) rfl (by rw [jS_r, jS_r, jS_r, jS_r, jS_0]; exact Nat.le_of_ble_eq_true rfl) ?_
  rw [la_r, la_r, la_r, la_r, la_0]
  show wj X d jm235 (0, [(0, rv (me)), (1, rv (cl)), (2, rv (ag)), (3, rv (pm))], [], cV R m tg ln F) _
  have hM0 : Fq 0 [(12, 4)] m tg F F := Fq_r
  obtain ⟨L0, eL0⟩ : ∃ q : jL, q = [(0, rv (me)), (1, rv (cl)), (2, rv (ag)), (3, rv (pm))] := ⟨_, rfl⟩
  rw [← eL0]
  have g192 : jGet L0 0 = some (rv (me)) := eL0 ▸ (rfl : jGet [(0, rv (me)), (1, rv (cl)), (2, rv (ag)), (3, rv (pm))] 0 = some (rv (me)))
  have g193 : jGet L0 1 = some (rv (cl)) := eL0 ▸ (rfl : jGet [(0, rv (me)), (1, rv (cl)), (2, rv (ag)), (3, rv (pm))] 1 = some (rv (cl)))
  have g194 : jGet L0 2 = some (rv (ag)) := eL0 ▸ (rfl : jGet [(0, rv (me)), (1, rv (cl)), (2, rv (ag)), (3, rv (pm))] 2 = some (rv (ag)))
  have g195 : jGet L0 3 = some (rv (pm)) := eL0 ▸ (rfl : jGet [(0, rv (me)), (1, rv (cl)), (2, rv (ag)), (3, rv (pm))] 3 = some (rv (pm)))
  clear eL0
  have k196 := SN_p n_cl (own_z o_cl)
  refine jx_ld (pc' := 1) (l' := L0) (st' := [rv (cl)]) rfl (jl_rvn g193) ?_
  refine cx_gr (pc' := 4) (c := 7) (q := 3) (v := F (cl) (3 : Int)) rfl rfl (by decide) (by decide) rfl rfl o_cl t_cl rfl ?_
  have y197 : F (cl) (3 : Int) = 0 ∨ (own m (F (cl) (3 : Int)) ∧ tg (F (cl) (3 : Int)) = 7) := by have z := HC_r (c := 7) (q := 3) hC o_cl t_cl (by decide) rfl; rw [show F (cl) ((3 : Nat) : Int) = F (cl) (3 : Int) from rfl] at z; exact z
  have hn198 : F (cl) (3 : Int) ≠ 0 := p_0
  have ho199 : own m (F (cl) (3 : Int)) ∧ tg (F (cl) (3 : Int)) = 7 := y197.resolve_left hn198
  refine cx_gr (pc' := 7) (c := 6) (q := 13) (v := F (F (cl) (3 : Int)) (13 : Int)) rfl rfl (by decide) (by decide) rfl rfl ho199.1 ho199.2 rfl ?_
  have y200 : F (F (cl) (3 : Int)) (13 : Int) = 0 ∨ (own m (F (F (cl) (3 : Int)) (13 : Int)) ∧ tg (F (F (cl) (3 : Int)) (13 : Int)) = 7) := by have z := HC_r (c := 6) (q := 13) hC ho199.1 ho199.2 (by decide) rfl; rw [show F (F (cl) (3 : Int)) ((13 : Nat) : Int) = F (F (cl) (3 : Int)) (13 : Int) from rfl] at z; exact z
  refine jx_ld (pc' := 9) (l' := jSto1 L0 4 (rv (F (F (cl) (3 : Int)) (13 : Int)))) (st' := []) rfl (js_rv (by decide)) ?_
  obtain ⟨L201, eL201⟩ : ∃ q : jL, q = jSto1 L0 4 (rv (F (F (cl) (3 : Int)) (13 : Int))) := ⟨_, rfl⟩
  rw [← eL201]
  have g202 : jGet L201 0 = some (rv (me)) := eL201 ▸ jg_nr (by decide) g192
  have g203 : jGet L201 1 = some (rv (cl)) := eL201 ▸ jg_nr (by decide) g193
  have g204 : jGet L201 2 = some (rv (ag)) := eL201 ▸ jg_nr (by decide) g194
  have g205 : jGet L201 3 = some (rv (pm)) := eL201 ▸ jg_nr (by decide) g195
  have g206 : jGet L201 4 = some (rv (F (F (cl) (3 : Int)) (13 : Int))) := eL201 ▸ jg_eq
  clear eL201
  refine jx_ld (pc' := 10) (l' := L201) (st' := [rv (cl)]) rfl (jl_rvn g203) ?_
  refine cx_gr (pc' := 13) (c := 7) (q := 4) (v := F (cl) (4 : Int)) rfl rfl (by decide) (by decide) rfl rfl o_cl t_cl rfl ?_
  have y207 : F (cl) (4 : Int) = 0 ∨ (own m (F (cl) (4 : Int)) ∧ tg (F (cl) (4 : Int)) = 8) := by have z := HC_r (c := 7) (q := 4) hC o_cl t_cl (by decide) rfl; rw [show F (cl) ((4 : Nat) : Int) = F (cl) (4 : Int) from rfl] at z; exact z
  refine jx_ld (pc' := 15) (l' := jSto1 L201 5 (rv (F (cl) (4 : Int)))) (st' := []) rfl (js_rv (by decide)) ?_
  obtain ⟨L208, eL208⟩ : ∃ q : jL, q = jSto1 L201 5 (rv (F (cl) (4 : Int))) := ⟨_, rfl⟩
  rw [← eL208]
  have g209 : jGet L208 0 = some (rv (me)) := eL208 ▸ jg_nr (by decide) g202
  have g210 : jGet L208 1 = some (rv (cl)) := eL208 ▸ jg_nr (by decide) g203
  have g211 : jGet L208 2 = some (rv (ag)) := eL208 ▸ jg_nr (by decide) g204
  have g212 : jGet L208 3 = some (rv (pm)) := eL208 ▸ jg_nr (by decide) g205
  have g213 : jGet L208 4 = some (rv (F (F (cl) (3 : Int)) (13 : Int))) := eL208 ▸ jg_nr (by decide) g206
  have g214 : jGet L208 5 = some (rv (F (cl) (4 : Int))) := eL208 ▸ jg_eq
  clear eL208
  exact k_LUses_againstOthers_at_15 (X := X) (kk := kk) (d := d) (R := R) (m := m) (tg := tg) (ln := ln) (F := F) (me := me) (cl := cl) (ag := ag) (pm := pm) (hd := hd) (hC := hC) (o_me := o_me) (t_me := t_me) (o_cl := o_cl) (t_cl := t_cl) (o_ag := o_ag) (t_ag := t_ag) (o_pm := o_pm) (t_pm := t_pm) (p_0 := p_0) (p_1 := p_1) (c_NT := c_NT) (n_cl := n_cl) _ L208 F (F (F (cl) (3 : Int)) (13 : Int)) (F (cl) (4 : Int)) rfl g209 g210 g211 g212 g213 g214 hC hM0 y200 y207 (SN_w (SN_c hC c_NT n_cl (own_z o_cl) (by omega)) (by omega))
set_option maxRecDepth 20000 in
set_option maxHeartbeats 4000000 in
theorem k_LUses_arguments_at_21 {X : jX} {kk : Nat} {d : Nat} {R : Nat → jC} {m : Nat} {tg ln : Int → Int} {F : Int → Int → Int} {me cl : Int} (hd : 3 * kk + 10 ≤ d + 1) (hC : HC 0 m tg ln F) (o_me : own m me) (t_me : tg me = 12) (o_cl : own m cl) (t_cl : tg cl = 8) (p_0 : F cl (0 : Int) = 5) (c_PSx : PSx m tg F) (c_NT : NT m tg F) (n_cl : SN m tg F cl (kk)) : ∀ (mm : Nat) (L : jL) (Fx : Int → Int → Int) (pa ar : Int), (mz m ar).toNat = mm → jGet L 0 = some (rv (me)) → jGet L 1 = some (rv (cl)) → jGet L 2 = some (rv pa) → jGet L 3 = some (rv ar) → HC 0 m tg ln Fx → Fq 0 [(7, 11), (8, 15), (8, 16), (8, 17), (8, 18), (12, 2), (12, 4), (24, -5)] m tg F Fx → (pa = 0 ∨ (own m pa ∧ tg pa = 7)) → (ar = 0 ∨ (own m ar ∧ tg ar = 8)) → (F cl (3 : Int) ≠ 0) → (ar = 0 ∨ F ar (101 : Int) = pa) → (SN m tg F ar (kk - 1)) → (PSx m tg Fx) → wj X d jm234 (21, L, [], cV R m tg ln Fx) (fun o V' => ∃ (F' : Int → Int → Int), V' = cV R m tg ln F' ∧ o = .inl none ∧ HC 0 m tg ln F' ∧ Fq 0 [(7, 11), (8, 15), (8, 16), (8, 17), (8, 18), (12, 2), (12, 4), (24, -5)] m tg F F' ∧ (PSx m tg F') ∧ True) := by
  intro mm
  induction mm using Nat.strongRecOn with
  | ind mm ih =>
    intro L Fx pa ar hmm gL_0 gL_1 gL_2 gL_3 hCx hMx yx_pa yx_ar iv_0 iv_1 sx_ar cx_PSx
    have k1 := SN_p n_cl (own_z o_cl)
    refine jx_ld (pc' := 22) (l' := L) (st' := [rv (ar)]) rfl (jl_rvn gL_3) ?_
    refine cx_nul (pc' := 25) (tg' := 74) rfl rfl rfl (fun h2 => ?_) (fun h2 => ?_)
    · have _q := h2
      refine jx_rt (v := none) rfl rfl rfl rfl rfl rfl ?_
      exact ⟨Fx, rfl, rfl, hCx, hMx, PSx_m cx_PSx (by omega), trivial⟩
    · have _q := h2
      have ho3 : own m (ar) ∧ tg (ar) = 8 := yx_ar.resolve_left h2
      have k4 := SN_p sx_ar h2
      refine jx_ld (pc' := 26) (l' := L) (st' := [rv (pa)]) rfl (jl_rvn gL_2) ?_
      refine cx_nul (pc' := 29) (tg' := 74) rfl rfl rfl (fun h5 => ?_) (fun h5 => ?_)
      · have _q := h5
        refine jx_rt (v := none) rfl rfl rfl rfl rfl rfl ?_
        exact ⟨Fx, rfl, rfl, hCx, hMx, PSx_m cx_PSx (by omega), trivial⟩
      · have _q := h5
        have ho6 : own m (pa) ∧ tg (pa) = 7 := yx_pa.resolve_left h5
        refine jx_ld (pc' := 30) (l' := L) (st' := [rv (pa)]) rfl (jl_rvn gL_2) ?_
        refine cx_gi (pc' := 33) (c := 6) (q := 0) (v := F (pa) (0 : Int)) rfl rfl (by decide) (by decide) (Or.inl rfl) rfl ho6.1 ho6.2 (show Fx (pa) (0 : Int) = F (pa) (0 : Int) from hMx _ _ ho6.1 (own_z ho6.1) (by rw [ho6.2]; rfl)) ?_
        have b7 : (-2147483648 : Int) ≤ F (pa) (0 : Int) ∧ F (pa) (0 : Int) ≤ 2147483647 := by have z := HC_i (c := 6) (q := 0) hCx ho6.1 ho6.2 (by decide) rfl; rw [show Fx (pa) ((0 : Nat) : Int) = F (pa) (0 : Int) from (show Fx (pa) (0 : Int) = F (pa) (0 : Int) from hMx _ _ ho6.1 (own_z ho6.1) (by rw [ho6.2]; rfl))] at z; exact z
        refine jx_ar (pc' := 34) (st' := [.int (i32 (1)), .int (i32 (F (pa) (0 : Int)))]) rfl rfl rfl rfl ?_
        refine jx_icmp_ne (pc' := 37) (tg := 45) rfl rfl rfl (by omega) (by omega) (by decide) (by decide) (fun h8 => ?_) (fun h8 => ?_)
        · have _q := h8
          refine jx_ld (pc' := 46) (l' := L) (st' := [rv (me)]) rfl (jl_rvn gL_0) ?_
          refine jx_ld (pc' := 47) (l' := L) (st' := [rv (ar), rv (me)]) rfl (jl_rvn gL_3) ?_
          refine jx_ld (pc' := 48) (l' := L) (st' := [rv (pa), rv (ar), rv (me)]) rfl (jl_rvn gL_2) ?_
          refine cx_gi (pc' := 51) (c := 6) (q := 11) (v := Fx (pa) (11 : Int)) rfl rfl (by decide) (by decide) (Or.inl rfl) rfl ho6.1 ho6.2 rfl ?_
          have b9 : (-2147483648 : Int) ≤ Fx (pa) (11 : Int) ∧ Fx (pa) (11 : Int) ≤ 2147483647 := by have z := HC_i (c := 6) (q := 11) hCx ho6.1 ho6.2 (by decide) rfl; rw [show Fx (pa) ((11 : Nat) : Int) = Fx (pa) (11 : Int) from rfl] at z; exact z
          refine cx_vi (c := 11) (a := me) (st := []) (as := [rv (ar), .int (i32 (Fx (pa) (11 : Int)))]) rfl rfl rfl o_me t_me (by decide) rfl ⟨rfl, rfl, (Nat.le_of_ble_eq_true rfl)⟩ rfl (k_LUses_use (dd := d) (R := R) (m := m) (tg := tg) (ln := ln) (F := Fx) (kk := kk - 1) (hE := fun _ => URx_all X _) (me := me) (p := ar) (fl := Fx (pa) (11 : Int)) (hd := by omega) (hC := hCx) (o_me := o_me) (t_me := t_me) (y_p := (Or.inr ⟨ho3.1, ho3.2⟩)) (h_fl := by omega) (c_PSx := cx_PSx) (c_NT := NT_q hC c_NT hMx rfl) (n_p := (SN_q (SN_w sx_ar (by omega)) hMx rfl rfl))) (fun o V' hq => ?_)
          obtain ⟨F10, rfl, rfl, hC11, hM12, c13, -⟩ := hq
          have hM14 : Fq 0 [(7, 11), (8, 15), (8, 16), (8, 17), (8, 18), (12, 2), (12, 4), (24, -5)] m tg F F10 := Fq_t (ln := ln) (ln1 := ln) hMx Ex_r hM12 (by decide) (Or.inl rfl)
          refine Or.inl ⟨rfl, ?_⟩
          refine jx_ld (pc' := 55) (l' := L) (st' := [rv (me)]) rfl (jl_rvn gL_0) ?_
          refine jx_ld (pc' := 56) (l' := L) (st' := [rv (cl), rv (me)]) rfl (jl_rvn gL_1) ?_
          refine jx_ld (pc' := 57) (l' := L) (st' := [rv (ar), rv (cl), rv (me)]) rfl (jl_rvn gL_3) ?_
          refine jx_ld (pc' := 58) (l' := L) (st' := [rv (pa), rv (ar), rv (cl), rv (me)]) rfl (jl_rvn gL_2) ?_
          have q15 : F10 (cl) (3 : Int) = F (cl) (3 : Int) := ((show F10 (cl) (3 : Int) = Fx (cl) (3 : Int) from hM12 _ _ o_cl (own_z o_cl) (by rw [t_cl]; rfl)).trans (show Fx (cl) (3 : Int) = F (cl) (3 : Int) from hMx _ _ o_cl (own_z o_cl) (by rw [t_cl]; rfl)))
          have q16 : F10 (ar) (3 : Int) = F (ar) (3 : Int) := ((show F10 (ar) (3 : Int) = Fx (ar) (3 : Int) from hM12 _ _ ho3.1 (own_z ho3.1) (by rw [ho3.2]; rfl)).trans (show Fx (ar) (3 : Int) = F (ar) (3 : Int) from hMx _ _ ho3.1 (own_z ho3.1) (by rw [ho3.2]; rfl)))
          refine cx_vi (c := 11) (a := me) (st := []) (as := [rv (cl), rv (ar), rv (pa)]) rfl rfl rfl o_me t_me (by decide) rfl ⟨rfl, rfl, (Nat.le_of_ble_eq_true rfl)⟩ rfl (k_LUses_againstOthers (dd := d) (R := R) (m := m) (tg := tg) (ln := ln) (F := F10) (kk := kk) (me := me) (cl := cl) (ag := ar) (pm := pa) (hd := by omega) (hC := hC11) (o_me := o_me) (t_me := t_me) (o_cl := o_cl) (t_cl := t_cl) (o_ag := ho3.1) (t_ag := ho3.2) (o_pm := ho6.1) (t_pm := ho6.2) (p_0 := by omega) (p_1 := (by
          have e1 : F (ar) (101 : Int) = pa := by omega
          have v := ((c_NT.1 _ ho3.1 ho3.2 (sx_ar.resolve_left (own_z ho3.1)).2.2.1).2.2.2 (by rw [e1]; exact own_z ho6.1)).2.2.1
          rw [e1] at v
          rw [show F10 (ar) (3 : Int) = F (ar) (3 : Int) from ((show F10 (ar) (3 : Int) = Fx (ar) (3 : Int) from hM12 _ _ ho3.1 (own_z ho3.1) (by rw [ho3.2]; rfl)).trans (show Fx (ar) (3 : Int) = F (ar) (3 : Int) from hMx _ _ ho3.1 (own_z ho3.1) (by rw [ho3.2]; rfl)))]
          exact v (by omega))) (c_NT := NT_q hC c_NT hM14 rfl) (n_cl := (SN_q (SN_w n_cl (by omega)) hM14 rfl rfl))) (fun o V' hq => ?_)
          obtain ⟨F17, rfl, rfl, hC18, hM19, -⟩ := hq
          have hM20 : Fq 0 [(7, 11), (8, 15), (8, 16), (8, 17), (8, 18), (12, 2), (12, 4), (24, -5)] m tg F F17 := Fq_t (ln := ln) (ln1 := ln) hM14 Ex_r hM19 (by decide) (Or.inl rfl)
          have c21 : PSx m tg F17 := PSx_q c13 hM19 rfl
          refine Or.inl ⟨rfl, ?_⟩
          refine jx_ld (pc' := 62) (l' := L) (st' := [rv (pa)]) rfl (jl_rvn gL_2) ?_
          refine cx_gr (pc' := 65) (c := 6) (q := 14) (v := F (pa) (14 : Int)) rfl rfl (by decide) (by decide) rfl rfl ho6.1 ho6.2 ((show F17 (pa) (14 : Int) = F10 (pa) (14 : Int) from hM19 _ _ ho6.1 (own_z ho6.1) (by rw [ho6.2]; rfl)).trans ((show F10 (pa) (14 : Int) = Fx (pa) (14 : Int) from hM12 _ _ ho6.1 (own_z ho6.1) (by rw [ho6.2]; rfl)).trans (show Fx (pa) (14 : Int) = F (pa) (14 : Int) from hMx _ _ ho6.1 (own_z ho6.1) (by rw [ho6.2]; rfl)))) ?_
          have y22 : F (pa) (14 : Int) = 0 ∨ (own m (F (pa) (14 : Int)) ∧ tg (F (pa) (14 : Int)) = 7) := by have z := HC_r (c := 6) (q := 14) hC18 ho6.1 ho6.2 (by decide) rfl; rw [show F17 (pa) ((14 : Nat) : Int) = F (pa) (14 : Int) from ((show F17 (pa) (14 : Int) = F10 (pa) (14 : Int) from hM19 _ _ ho6.1 (own_z ho6.1) (by rw [ho6.2]; rfl)).trans ((show F10 (pa) (14 : Int) = Fx (pa) (14 : Int) from hM12 _ _ ho6.1 (own_z ho6.1) (by rw [ho6.2]; rfl)).trans (show Fx (pa) (14 : Int) = F (pa) (14 : Int) from hMx _ _ ho6.1 (own_z ho6.1) (by rw [ho6.2]; rfl))))] at z; exact z
          have z23 := mz_a hC c_NT ho6.1 ho6.2
          refine jx_ld (pc' := 66) (l' := jSto1 L 2 (rv (F (pa) (14 : Int)))) (st' := []) rfl (js_rvn (by decide)) ?_
          obtain ⟨L24, eL24⟩ : ∃ q : jL, q = jSto1 L 2 (rv (F (pa) (14 : Int))) := ⟨_, rfl⟩
          rw [← eL24]
          have g25 : jGet L24 0 = some (rv (me)) := eL24 ▸ jg_nr (by decide) gL_0
          have g26 : jGet L24 1 = some (rv (cl)) := eL24 ▸ jg_nr (by decide) gL_1
          have g27 : jGet L24 3 = some (rv (ar)) := eL24 ▸ jg_nr (by decide) gL_3
          have g28 : jGet L24 2 = some (rv (F (pa) (14 : Int))) := eL24 ▸ jg_eq
          clear eL24
          refine jx_ld (pc' := 67) (l' := L24) (st' := [rv (ar)]) rfl (jl_rvn g27) ?_
          refine cx_gr (pc' := 70) (c := 7) (q := 8) (v := F (ar) (8 : Int)) rfl rfl (by decide) (by decide) rfl rfl ho3.1 ho3.2 ((show F17 (ar) (8 : Int) = F10 (ar) (8 : Int) from hM19 _ _ ho3.1 (own_z ho3.1) (by rw [ho3.2]; rfl)).trans ((show F10 (ar) (8 : Int) = Fx (ar) (8 : Int) from hM12 _ _ ho3.1 (own_z ho3.1) (by rw [ho3.2]; rfl)).trans (show Fx (ar) (8 : Int) = F (ar) (8 : Int) from hMx _ _ ho3.1 (own_z ho3.1) (by rw [ho3.2]; rfl)))) ?_
          have y29 : F (ar) (8 : Int) = 0 ∨ (own m (F (ar) (8 : Int)) ∧ tg (F (ar) (8 : Int)) = 8) := by have z := HC_r (c := 7) (q := 8) hC18 ho3.1 ho3.2 (by decide) rfl; rw [show F17 (ar) ((8 : Nat) : Int) = F (ar) (8 : Int) from ((show F17 (ar) (8 : Int) = F10 (ar) (8 : Int) from hM19 _ _ ho3.1 (own_z ho3.1) (by rw [ho3.2]; rfl)).trans ((show F10 (ar) (8 : Int) = Fx (ar) (8 : Int) from hM12 _ _ ho3.1 (own_z ho3.1) (by rw [ho3.2]; rfl)).trans (show Fx (ar) (8 : Int) = F (ar) (8 : Int) from hMx _ _ ho3.1 (own_z ho3.1) (by rw [ho3.2]; rfl))))] at z; exact z
          have z30 := mz_n hC c_NT sx_ar (own_z ho3.1)
          refine jx_ld (pc' := 71) (l' := jSto1 L24 3 (rv (F (ar) (8 : Int)))) (st' := []) rfl (js_rvn (by decide)) ?_
          obtain ⟨L31, eL31⟩ : ∃ q : jL, q = jSto1 L24 3 (rv (F (ar) (8 : Int))) := ⟨_, rfl⟩
          rw [← eL31]
          have g32 : jGet L31 0 = some (rv (me)) := eL31 ▸ jg_nr (by decide) g25
          have g33 : jGet L31 1 = some (rv (cl)) := eL31 ▸ jg_nr (by decide) g26
          have g34 : jGet L31 2 = some (rv (F (pa) (14 : Int))) := eL31 ▸ jg_nr (by decide) g28
          have g35 : jGet L31 3 = some (rv (F (ar) (8 : Int))) := eL31 ▸ jg_eq
          clear eL31
          refine jx_go (tg := 21) rfl rfl ?_
          exact ih _ (by omega) L31 F17 (F (pa) (14 : Int)) (F (ar) (8 : Int)) rfl g32 g33 g34 g35 hC18 hM20 y22 y29 (by omega) (by
          have e1 : F (ar) (101 : Int) = pa := by omega
          by_cases w : F (ar) (8 : Int) = 0
          · exact Or.inl w
          · refine Or.inr ?_
            have v := (((c_NT.1 _ ho3.1 ho3.2 (sx_ar.resolve_left (own_z ho3.1)).2.2.1).2.2.2 (by rw [e1]; exact own_z ho6.1)).2.2.2 w).1
            rw [e1] at v
            exact v) (SN_w (SN_n hC c_NT sx_ar (own_z ho3.1)) (by omega)) (PSx_m c21 (by omega))
        · have _q := h8
          refine jx_ld (pc' := 38) (l' := L) (st' := [rv (me)]) rfl (jl_rvn gL_0) ?_
          refine jx_ld (pc' := 39) (l' := L) (st' := [rv (ar), rv (me)]) rfl (jl_rvn gL_3) ?_
          refine cx_vi (c := 11) (a := me) (st := []) (as := [rv (ar)]) rfl rfl rfl o_me t_me (by decide) rfl ⟨rfl, rfl, (Nat.le_of_ble_eq_true rfl)⟩ rfl (URx_all X (kk - 1) (dd := d) (R := R) (m := m) (tg := tg) (ln := ln) (F := Fx) (me := me) (e := ar) (hd := by omega) (hC := hCx) (o_me := o_me) (t_me := t_me) (y_e := (Or.inr ⟨ho3.1, ho3.2⟩)) (c_PSx := cx_PSx) (c_NT := NT_q hC c_NT hMx rfl) (n_e := (SN_q (SN_w sx_ar (by omega)) hMx rfl rfl))) (fun o V' hq => ?_)
          obtain ⟨F36, rfl, rfl, hC37, hM38, c39, -⟩ := hq
          have hM40 : Fq 0 [(7, 11), (8, 15), (8, 16), (8, 17), (8, 18), (12, 2), (12, 4), (24, -5)] m tg F F36 := Fq_t (ln := ln) (ln1 := ln) hMx Ex_r hM38 (by decide) (Or.inl rfl)
          refine Or.inl ⟨rfl, ?_⟩
          refine jx_go (tg := 61) rfl rfl ?_
          refine jx_ld (pc' := 62) (l' := L) (st' := [rv (pa)]) rfl (jl_rvn gL_2) ?_
          refine cx_gr (pc' := 65) (c := 6) (q := 14) (v := F (pa) (14 : Int)) rfl rfl (by decide) (by decide) rfl rfl ho6.1 ho6.2 ((show F36 (pa) (14 : Int) = Fx (pa) (14 : Int) from hM38 _ _ ho6.1 (own_z ho6.1) (by rw [ho6.2]; rfl)).trans (show Fx (pa) (14 : Int) = F (pa) (14 : Int) from hMx _ _ ho6.1 (own_z ho6.1) (by rw [ho6.2]; rfl))) ?_
          have y41 : F (pa) (14 : Int) = 0 ∨ (own m (F (pa) (14 : Int)) ∧ tg (F (pa) (14 : Int)) = 7) := by have z := HC_r (c := 6) (q := 14) hC37 ho6.1 ho6.2 (by decide) rfl; rw [show F36 (pa) ((14 : Nat) : Int) = F (pa) (14 : Int) from ((show F36 (pa) (14 : Int) = Fx (pa) (14 : Int) from hM38 _ _ ho6.1 (own_z ho6.1) (by rw [ho6.2]; rfl)).trans (show Fx (pa) (14 : Int) = F (pa) (14 : Int) from hMx _ _ ho6.1 (own_z ho6.1) (by rw [ho6.2]; rfl)))] at z; exact z
          have z42 := mz_a hC c_NT ho6.1 ho6.2
          refine jx_ld (pc' := 66) (l' := jSto1 L 2 (rv (F (pa) (14 : Int)))) (st' := []) rfl (js_rvn (by decide)) ?_
          obtain ⟨L43, eL43⟩ : ∃ q : jL, q = jSto1 L 2 (rv (F (pa) (14 : Int))) := ⟨_, rfl⟩
          rw [← eL43]
          have g44 : jGet L43 0 = some (rv (me)) := eL43 ▸ jg_nr (by decide) gL_0
          have g45 : jGet L43 1 = some (rv (cl)) := eL43 ▸ jg_nr (by decide) gL_1
          have g46 : jGet L43 3 = some (rv (ar)) := eL43 ▸ jg_nr (by decide) gL_3
          have g47 : jGet L43 2 = some (rv (F (pa) (14 : Int))) := eL43 ▸ jg_eq
          clear eL43
          refine jx_ld (pc' := 67) (l' := L43) (st' := [rv (ar)]) rfl (jl_rvn g46) ?_
          refine cx_gr (pc' := 70) (c := 7) (q := 8) (v := F (ar) (8 : Int)) rfl rfl (by decide) (by decide) rfl rfl ho3.1 ho3.2 ((show F36 (ar) (8 : Int) = Fx (ar) (8 : Int) from hM38 _ _ ho3.1 (own_z ho3.1) (by rw [ho3.2]; rfl)).trans (show Fx (ar) (8 : Int) = F (ar) (8 : Int) from hMx _ _ ho3.1 (own_z ho3.1) (by rw [ho3.2]; rfl))) ?_
          have y48 : F (ar) (8 : Int) = 0 ∨ (own m (F (ar) (8 : Int)) ∧ tg (F (ar) (8 : Int)) = 8) := by have z := HC_r (c := 7) (q := 8) hC37 ho3.1 ho3.2 (by decide) rfl; rw [show F36 (ar) ((8 : Nat) : Int) = F (ar) (8 : Int) from ((show F36 (ar) (8 : Int) = Fx (ar) (8 : Int) from hM38 _ _ ho3.1 (own_z ho3.1) (by rw [ho3.2]; rfl)).trans (show Fx (ar) (8 : Int) = F (ar) (8 : Int) from hMx _ _ ho3.1 (own_z ho3.1) (by rw [ho3.2]; rfl)))] at z; exact z
          have z49 := mz_n hC c_NT sx_ar (own_z ho3.1)
          refine jx_ld (pc' := 71) (l' := jSto1 L43 3 (rv (F (ar) (8 : Int)))) (st' := []) rfl (js_rvn (by decide)) ?_
          obtain ⟨L50, eL50⟩ : ∃ q : jL, q = jSto1 L43 3 (rv (F (ar) (8 : Int))) := ⟨_, rfl⟩
          rw [← eL50]
          have g51 : jGet L50 0 = some (rv (me)) := eL50 ▸ jg_nr (by decide) g44
          have g52 : jGet L50 1 = some (rv (cl)) := eL50 ▸ jg_nr (by decide) g45
          have g53 : jGet L50 2 = some (rv (F (pa) (14 : Int))) := eL50 ▸ jg_nr (by decide) g47
          have g54 : jGet L50 3 = some (rv (F (ar) (8 : Int))) := eL50 ▸ jg_eq
          clear eL50
          refine jx_go (tg := 21) rfl rfl ?_
          exact ih _ (by omega) L50 F36 (F (pa) (14 : Int)) (F (ar) (8 : Int)) rfl g51 g52 g53 g54 hC37 hM40 y41 y48 (by omega) (by
          have e1 : F (ar) (101 : Int) = pa := by omega
          by_cases w : F (ar) (8 : Int) = 0
          · exact Or.inl w
          · refine Or.inr ?_
            have v := (((c_NT.1 _ ho3.1 ho3.2 (sx_ar.resolve_left (own_z ho3.1)).2.2.1).2.2.2 (by rw [e1]; exact own_z ho6.1)).2.2.2 w).1
            rw [e1] at v
            exact v) (SN_w (SN_n hC c_NT sx_ar (own_z ho3.1)) (by omega)) (PSx_m c39 (by omega))
set_option maxRecDepth 20000 in
set_option maxHeartbeats 4000000 in
theorem k_LUses_arguments {X : jX} {kk : Nat} {dd : Nat} {R : Nat → jC} {m : Nat} {tg ln : Int → Int} {F : Int → Int → Int} {me cl : Int} (hd : 3 * kk + 10 ≤ dd) (hC : HC 0 m tg ln F) (o_me : own m me) (t_me : tg me = 12) (o_cl : own m cl) (t_cl : tg cl = 8) (p_0 : F cl (0 : Int) = 5) (c_PSx : PSx m tg F) (c_NT : NT m tg F) (n_cl : SN m tg F cl (kk)) : wk X dd 234 [rv me, rv cl] (cV R m tg ln F) (fun o V' => ∃ (F' : Int → Int → Int), V' = cV R m tg ln F' ∧ o = .inl none ∧ HC 0 m tg ln F' ∧ Fq 0 [(7, 11), (8, 15), (8, 16), (8, 17), (8, 18), (12, 2), (12, 4), (24, -5)] m tg F F' ∧ (PSx m tg F') ∧ True) := by
  obtain ⟨d, rfl⟩ : ∃ d, dd = d + 1 := ⟨dd - 1, by omega⟩
  refine wk_of (e := jm234) rfl (by rw [jS_r, jS_r, jS_0]; exact Nat.le_of_ble_eq_true rfl) ?_
  rw [la_r, la_r, la_0]
  show wj X d jm234 (0, [(0, rv (me)), (1, rv (cl))], [], cV R m tg ln F) _
  have hM0 : Fq 0 [(7, 11), (8, 15), (8, 16), (8, 17), (8, 18), (12, 2), (12, 4), (24, -5)] m tg F F := Fq_r
  obtain ⟨L0, eL0⟩ : ∃ q : jL, q = [(0, rv (me)), (1, rv (cl))] := ⟨_, rfl⟩
  rw [← eL0]
  have g55 : jGet L0 0 = some (rv (me)) := eL0 ▸ (rfl : jGet [(0, rv (me)), (1, rv (cl))] 0 = some (rv (me)))
  have g56 : jGet L0 1 = some (rv (cl)) := eL0 ▸ (rfl : jGet [(0, rv (me)), (1, rv (cl))] 1 = some (rv (cl)))
  clear eL0
  have k57 := SN_p n_cl (own_z o_cl)
  refine jx_ld (pc' := 1) (l' := L0) (st' := [rv (cl)]) rfl (jl_rvn g56) ?_
  refine cx_gr (pc' := 4) (c := 7) (q := 3) (v := F (cl) (3 : Int)) rfl rfl (by decide) (by decide) rfl rfl o_cl t_cl rfl ?_
  have y58 : F (cl) (3 : Int) = 0 ∨ (own m (F (cl) (3 : Int)) ∧ tg (F (cl) (3 : Int)) = 7) := by have z := HC_r (c := 7) (q := 3) hC o_cl t_cl (by decide) rfl; rw [show F (cl) ((3 : Nat) : Int) = F (cl) (3 : Int) from rfl] at z; exact z
  refine cx_non (pc' := 7) (tg' := 8) rfl rfl rfl (fun h59 => ?_) (fun h59 => ?_)
  · have _q := h59
    have ho60 : own m (F (cl) (3 : Int)) ∧ tg (F (cl) (3 : Int)) = 7 := y58.resolve_left h59
    refine jx_ld (pc' := 9) (l' := L0) (st' := [rv (cl)]) rfl (jl_rvn g56) ?_
    refine cx_gr (pc' := 12) (c := 7) (q := 3) (v := F (cl) (3 : Int)) rfl rfl (by decide) (by decide) rfl rfl o_cl t_cl rfl ?_
    refine cx_gr (pc' := 15) (c := 6) (q := 13) (v := F (F (cl) (3 : Int)) (13 : Int)) rfl rfl (by decide) (by decide) rfl rfl ho60.1 ho60.2 rfl ?_
    have y61 : F (F (cl) (3 : Int)) (13 : Int) = 0 ∨ (own m (F (F (cl) (3 : Int)) (13 : Int)) ∧ tg (F (F (cl) (3 : Int)) (13 : Int)) = 7) := by have z := HC_r (c := 6) (q := 13) hC ho60.1 ho60.2 (by decide) rfl; rw [show F (F (cl) (3 : Int)) ((13 : Nat) : Int) = F (F (cl) (3 : Int)) (13 : Int) from rfl] at z; exact z
    refine jx_ld (pc' := 16) (l' := jSto1 L0 2 (rv (F (F (cl) (3 : Int)) (13 : Int)))) (st' := []) rfl (js_rvn (by decide)) ?_
    obtain ⟨L62, eL62⟩ : ∃ q : jL, q = jSto1 L0 2 (rv (F (F (cl) (3 : Int)) (13 : Int))) := ⟨_, rfl⟩
    rw [← eL62]
    have g63 : jGet L62 0 = some (rv (me)) := eL62 ▸ jg_nr (by decide) g55
    have g64 : jGet L62 1 = some (rv (cl)) := eL62 ▸ jg_nr (by decide) g56
    have g65 : jGet L62 2 = some (rv (F (F (cl) (3 : Int)) (13 : Int))) := eL62 ▸ jg_eq
    clear eL62
    refine jx_ld (pc' := 17) (l' := L62) (st' := [rv (cl)]) rfl (jl_rvn g64) ?_
    refine cx_gr (pc' := 20) (c := 7) (q := 4) (v := F (cl) (4 : Int)) rfl rfl (by decide) (by decide) rfl rfl o_cl t_cl rfl ?_
    have y66 : F (cl) (4 : Int) = 0 ∨ (own m (F (cl) (4 : Int)) ∧ tg (F (cl) (4 : Int)) = 8) := by have z := HC_r (c := 7) (q := 4) hC o_cl t_cl (by decide) rfl; rw [show F (cl) ((4 : Nat) : Int) = F (cl) (4 : Int) from rfl] at z; exact z
    refine jx_ld (pc' := 21) (l' := jSto1 L62 3 (rv (F (cl) (4 : Int)))) (st' := []) rfl (js_rvn (by decide)) ?_
    obtain ⟨L67, eL67⟩ : ∃ q : jL, q = jSto1 L62 3 (rv (F (cl) (4 : Int))) := ⟨_, rfl⟩
    rw [← eL67]
    have g68 : jGet L67 0 = some (rv (me)) := eL67 ▸ jg_nr (by decide) g63
    have g69 : jGet L67 1 = some (rv (cl)) := eL67 ▸ jg_nr (by decide) g64
    have g70 : jGet L67 2 = some (rv (F (F (cl) (3 : Int)) (13 : Int))) := eL67 ▸ jg_nr (by decide) g65
    have g71 : jGet L67 3 = some (rv (F (cl) (4 : Int))) := eL67 ▸ jg_eq
    clear eL67
    exact k_LUses_arguments_at_21 (X := X) (kk := kk) (d := d) (R := R) (m := m) (tg := tg) (ln := ln) (F := F) (me := me) (cl := cl) (hd := hd) (hC := hC) (o_me := o_me) (t_me := t_me) (o_cl := o_cl) (t_cl := t_cl) (p_0 := p_0) (c_PSx := c_PSx) (c_NT := c_NT) (n_cl := n_cl) _ L67 F (F (F (cl) (3 : Int)) (13 : Int)) (F (cl) (4 : Int)) rfl g68 g69 g70 g71 hC hM0 y61 y66 (by omega) (by
          by_cases w : F (cl) (4 : Int) = 0
          · exact Or.inl w
          · exact Or.inr ((c_NT.1 _ o_cl t_cl (n_cl.resolve_left (own_z o_cl)).2.2.1).2.2.1 (by omega) (own_z ho60.1) w).1) (SN_w (SN_c hC c_NT n_cl (own_z o_cl) (by omega)) (by omega)) (PSx_m c_PSx (by omega))
  · have _q := h59
    refine jx_rt (v := none) rfl rfl rfl rfl rfl rfl ?_
    exact ⟨F, rfl, rfl, hC, hM0, PSx_m c_PSx (by omega), trivial⟩
def UPx (X : jX) (kk : Nat) : Prop := ∀ ⦃dd : Nat⦄ ⦃R : Nat → jC⦄ ⦃m : Nat⦄ ⦃tg ln : Int → Int⦄ ⦃F : Int → Int → Int⦄ ⦃me p : Int⦄ (hd : 3 * kk + 16 ≤ dd) (hC : HC 0 m tg ln F) (o_me : own m me) (t_me : tg me = 12) (y_p : p = 0 ∨ (own m p ∧ tg p = 8)) (c_PSx : PSx m tg F) (c_NT : NT m tg F) (n_p : SN m tg F p (kk)), wk X dd 228 [rv me, rv p] (cV R m tg ln F) (fun o V' => ∃ (F' : Int → Int → Int), V' = cV R m tg ln F' ∧ o = .inl none ∧ HC 0 m tg ln F' ∧ Fq 0 [(7, 11), (8, 15), (8, 16), (8, 17), (8, 18), (12, 2), (12, 4), (24, -5), (8, 13), (8, 14)] m tg F F' ∧ (PSx m tg F') ∧ True)
set_option maxRecDepth 20000 in
set_option maxHeartbeats 4000000 in
theorem k_LUses_choices_at_5 {X : jX} {kk : Nat} (hE : 1 ≤ kk → UPx X (kk - 1)) {d : Nat} {R : Nat → jC} {m : Nat} {tg ln : Int → Int} {F : Int → Int → Int} {me p : Int} (hd : 3 * kk + 15 ≤ d + 1) (hC : HC 0 m tg ln F) (o_me : own m me) (t_me : tg me = 12) (o_p : own m p) (t_p : tg p = 8) (c_PSx : PSx m tg F) (c_NT : NT m tg F) (n_p : SN m tg F p (kk)) : ∀ (mm : Nat) (L : jL) (Fx : Int → Int → Int) (ch : Int), (mz m ch).toNat = mm → jGet L 0 = some (rv (me)) → jGet L 1 = some (rv (p)) → jGet L 2 = some (rv ch) → HC 0 m tg ln Fx → Fq 0 [(7, 11), (8, 15), (8, 16), (8, 17), (8, 18), (12, 2), (12, 4), (24, -5), (8, 13), (8, 14)] m tg F Fx → (ch = 0 ∨ (own m ch ∧ tg ch = 8)) → (SN m tg F ch (kk - 1)) → (PSx m tg Fx) → wj X d jm229 (5, L, [], cV R m tg ln Fx) (fun o V' => ∃ (F' : Int → Int → Int), V' = cV R m tg ln F' ∧ o = .inl none ∧ HC 0 m tg ln F' ∧ Fq 0 [(7, 11), (8, 15), (8, 16), (8, 17), (8, 18), (12, 2), (12, 4), (24, -5), (8, 13), (8, 14)] m tg F F' ∧ (PSx m tg F') ∧ True) := by
  intro mm
  induction mm using Nat.strongRecOn with
  | ind mm ih =>
    intro L Fx ch hmm gL_0 gL_1 gL_2 hCx hMx yx_ch sx_ch cx_PSx
    have k1 := SN_p n_p (own_z o_p)
    have hE2 := hE (by omega)
    refine jx_ld (pc' := 6) (l' := L) (st' := [rv (ch)]) rfl (jl_rvn gL_2) ?_
    refine cx_nul (pc' := 9) (tg' := 52) rfl rfl rfl (fun h3 => ?_) (fun h3 => ?_)
    · have _q := h3
      refine jx_rt (v := none) rfl rfl rfl rfl rfl rfl ?_
      exact ⟨Fx, rfl, rfl, hCx, hMx, PSx_m cx_PSx (by omega), trivial⟩
    · have _q := h3
      have ho4 : own m (ch) ∧ tg (ch) = 8 := yx_ch.resolve_left h3
      have k5 := SN_p sx_ch h3
      refine jx_ld (pc' := 10) (l' := L) (st' := [rv (me)]) rfl (jl_rvn gL_0) ?_
      refine jx_ld (pc' := 11) (l' := L) (st' := [rv (ch), rv (me)]) rfl (jl_rvn gL_2) ?_
      refine cx_gr (pc' := 14) (c := 7) (q := 4) (v := F (ch) (4 : Int)) rfl rfl (by decide) (by decide) rfl rfl ho4.1 ho4.2 (show Fx (ch) (4 : Int) = F (ch) (4 : Int) from hMx _ _ ho4.1 (own_z ho4.1) (by rw [ho4.2]; rfl)) ?_
      have y6 : F (ch) (4 : Int) = 0 ∨ (own m (F (ch) (4 : Int)) ∧ tg (F (ch) (4 : Int)) = 8) := by have z := HC_r (c := 7) (q := 4) hCx ho4.1 ho4.2 (by decide) rfl; rw [show Fx (ch) ((4 : Nat) : Int) = F (ch) (4 : Int) from (show Fx (ch) (4 : Int) = F (ch) (4 : Int) from hMx _ _ ho4.1 (own_z ho4.1) (by rw [ho4.2]; rfl))] at z; exact z
      refine cx_vi (c := 11) (a := me) (st := []) (as := [rv (F (ch) (4 : Int))]) rfl rfl rfl o_me t_me (by decide) rfl ⟨rfl, rfl, (Nat.le_of_ble_eq_true rfl)⟩ rfl (URx_all X ((kk - 1) - 1) (dd := d) (R := R) (m := m) (tg := tg) (ln := ln) (F := Fx) (me := me) (e := F (ch) (4 : Int)) (hd := by omega) (hC := hCx) (o_me := o_me) (t_me := t_me) (y_e := y6) (c_PSx := cx_PSx) (c_NT := NT_q hC c_NT hMx rfl) (n_e := (SN_q (SN_w (SN_c hC c_NT sx_ch (own_z ho4.1) (by omega)) (by omega)) hMx rfl rfl))) (fun o V' hq => ?_)
      obtain ⟨F7, rfl, rfl, hC8, hM9, c10, -⟩ := hq
      have hM11 : Fq 0 [(7, 11), (8, 15), (8, 16), (8, 17), (8, 18), (12, 2), (12, 4), (24, -5), (8, 13), (8, 14)] m tg F F7 := Fq_t (ln := ln) (ln1 := ln) hMx Ex_r hM9 (by decide) (Or.inl rfl)
      refine Or.inl ⟨rfl, ?_⟩
      refine jx_ld (pc' := 18) (l' := L) (st' := [rv (me)]) rfl (jl_rvn gL_0) ?_
      refine jx_ld (pc' := 19) (l' := L) (st' := [rv (ch), rv (me)]) rfl (jl_rvn gL_2) ?_
      refine cx_gr (pc' := 22) (c := 7) (q := 5) (v := F (ch) (5 : Int)) rfl rfl (by decide) (by decide) rfl rfl ho4.1 ho4.2 ((show F7 (ch) (5 : Int) = Fx (ch) (5 : Int) from hM9 _ _ ho4.1 (own_z ho4.1) (by rw [ho4.2]; rfl)).trans (show Fx (ch) (5 : Int) = F (ch) (5 : Int) from hMx _ _ ho4.1 (own_z ho4.1) (by rw [ho4.2]; rfl))) ?_
      have y12 : F (ch) (5 : Int) = 0 ∨ (own m (F (ch) (5 : Int)) ∧ tg (F (ch) (5 : Int)) = 8) := by have z := HC_r (c := 7) (q := 5) hC8 ho4.1 ho4.2 (by decide) rfl; rw [show F7 (ch) ((5 : Nat) : Int) = F (ch) (5 : Int) from ((show F7 (ch) (5 : Int) = Fx (ch) (5 : Int) from hM9 _ _ ho4.1 (own_z ho4.1) (by rw [ho4.2]; rfl)).trans (show Fx (ch) (5 : Int) = F (ch) (5 : Int) from hMx _ _ ho4.1 (own_z ho4.1) (by rw [ho4.2]; rfl)))] at z; exact z
      refine jx_ar (pc' := 24) (st' := [.int (i32 (8)), rv (F (ch) (5 : Int)), rv (me)]) rfl rfl rfl rfl ?_
      refine cx_vi (c := 11) (a := me) (st := []) (as := [rv (F (ch) (5 : Int)), .int (i32 (8))]) rfl rfl rfl o_me t_me (by decide) rfl ⟨rfl, rfl, (Nat.le_of_ble_eq_true rfl)⟩ rfl (k_LUses_use (dd := d) (R := R) (m := m) (tg := tg) (ln := ln) (F := F7) (kk := (kk - 1) - 1) (hE := fun _ => URx_all X _) (me := me) (p := F (ch) (5 : Int)) (fl := 8) (hd := by omega) (hC := hC8) (o_me := o_me) (t_me := t_me) (y_p := y12) (h_fl := by omega) (c_PSx := c10) (c_NT := NT_q hC c_NT hM11 rfl) (n_p := (SN_q (SN_w (SN_c hC c_NT sx_ch (own_z ho4.1) (by omega)) (by omega)) hM11 rfl rfl))) (fun o V' hq => ?_)
      obtain ⟨F13, rfl, rfl, hC14, hM15, c16, -⟩ := hq
      have hM17 : Fq 0 [(7, 11), (8, 15), (8, 16), (8, 17), (8, 18), (12, 2), (12, 4), (24, -5), (8, 13), (8, 14)] m tg F F13 := Fq_t (ln := ln) (ln1 := ln) hM11 Ex_r hM15 (by decide) (Or.inl rfl)
      refine Or.inl ⟨rfl, ?_⟩
      refine jx_ld (pc' := 28) (l' := L) (st' := [rv (me)]) rfl (jl_rvn gL_0) ?_
      refine jx_ld (pc' := 29) (l' := L) (st' := [rv (ch), rv (me)]) rfl (jl_rvn gL_2) ?_
      refine cx_gr (pc' := 32) (c := 7) (q := 6) (v := F (ch) (6 : Int)) rfl rfl (by decide) (by decide) rfl rfl ho4.1 ho4.2 ((show F13 (ch) (6 : Int) = F7 (ch) (6 : Int) from hM15 _ _ ho4.1 (own_z ho4.1) (by rw [ho4.2]; rfl)).trans ((show F7 (ch) (6 : Int) = Fx (ch) (6 : Int) from hM9 _ _ ho4.1 (own_z ho4.1) (by rw [ho4.2]; rfl)).trans (show Fx (ch) (6 : Int) = F (ch) (6 : Int) from hMx _ _ ho4.1 (own_z ho4.1) (by rw [ho4.2]; rfl)))) ?_
      have y18 : F (ch) (6 : Int) = 0 ∨ (own m (F (ch) (6 : Int)) ∧ tg (F (ch) (6 : Int)) = 8) := by have z := HC_r (c := 7) (q := 6) hC14 ho4.1 ho4.2 (by decide) rfl; rw [show F13 (ch) ((6 : Nat) : Int) = F (ch) (6 : Int) from ((show F13 (ch) (6 : Int) = F7 (ch) (6 : Int) from hM15 _ _ ho4.1 (own_z ho4.1) (by rw [ho4.2]; rfl)).trans ((show F7 (ch) (6 : Int) = Fx (ch) (6 : Int) from hM9 _ _ ho4.1 (own_z ho4.1) (by rw [ho4.2]; rfl)).trans (show Fx (ch) (6 : Int) = F (ch) (6 : Int) from hMx _ _ ho4.1 (own_z ho4.1) (by rw [ho4.2]; rfl))))] at z; exact z
      refine jx_ar (pc' := 33) (st' := [.int (i32 (2)), rv (F (ch) (6 : Int)), rv (me)]) rfl rfl rfl rfl ?_
      refine cx_vi (c := 11) (a := me) (st := []) (as := [rv (F (ch) (6 : Int)), .int (i32 (2))]) rfl rfl rfl o_me t_me (by decide) rfl ⟨rfl, rfl, (Nat.le_of_ble_eq_true rfl)⟩ rfl (k_LUses_use (dd := d) (R := R) (m := m) (tg := tg) (ln := ln) (F := F13) (kk := (kk - 1) - 1) (hE := fun _ => URx_all X _) (me := me) (p := F (ch) (6 : Int)) (fl := 2) (hd := by omega) (hC := hC14) (o_me := o_me) (t_me := t_me) (y_p := y18) (h_fl := by omega) (c_PSx := c16) (c_NT := NT_q hC c_NT hM17 rfl) (n_p := (SN_q (SN_w (SN_c hC c_NT sx_ch (own_z ho4.1) (by omega)) (by omega)) hM17 rfl rfl))) (fun o V' hq => ?_)
      obtain ⟨F19, rfl, rfl, hC20, hM21, c22, -⟩ := hq
      have hM23 : Fq 0 [(7, 11), (8, 15), (8, 16), (8, 17), (8, 18), (12, 2), (12, 4), (24, -5), (8, 13), (8, 14)] m tg F F19 := Fq_t (ln := ln) (ln1 := ln) hM17 Ex_r hM21 (by decide) (Or.inl rfl)
      refine Or.inl ⟨rfl, ?_⟩
      refine jx_ld (pc' := 37) (l' := L) (st' := [rv (me)]) rfl (jl_rvn gL_0) ?_
      refine jx_ld (pc' := 38) (l' := L) (st' := [rv (ch), rv (me)]) rfl (jl_rvn gL_2) ?_
      refine cx_gr (pc' := 41) (c := 7) (q := 7) (v := F (ch) (7 : Int)) rfl rfl (by decide) (by decide) rfl rfl ho4.1 ho4.2 ((show F19 (ch) (7 : Int) = F13 (ch) (7 : Int) from hM21 _ _ ho4.1 (own_z ho4.1) (by rw [ho4.2]; rfl)).trans ((show F13 (ch) (7 : Int) = F7 (ch) (7 : Int) from hM15 _ _ ho4.1 (own_z ho4.1) (by rw [ho4.2]; rfl)).trans ((show F7 (ch) (7 : Int) = Fx (ch) (7 : Int) from hM9 _ _ ho4.1 (own_z ho4.1) (by rw [ho4.2]; rfl)).trans (show Fx (ch) (7 : Int) = F (ch) (7 : Int) from hMx _ _ ho4.1 (own_z ho4.1) (by rw [ho4.2]; rfl))))) ?_
      have y24 : F (ch) (7 : Int) = 0 ∨ (own m (F (ch) (7 : Int)) ∧ tg (F (ch) (7 : Int)) = 8) := by have z := HC_r (c := 7) (q := 7) hC20 ho4.1 ho4.2 (by decide) rfl; rw [show F19 (ch) ((7 : Nat) : Int) = F (ch) (7 : Int) from ((show F19 (ch) (7 : Int) = F13 (ch) (7 : Int) from hM21 _ _ ho4.1 (own_z ho4.1) (by rw [ho4.2]; rfl)).trans ((show F13 (ch) (7 : Int) = F7 (ch) (7 : Int) from hM15 _ _ ho4.1 (own_z ho4.1) (by rw [ho4.2]; rfl)).trans ((show F7 (ch) (7 : Int) = Fx (ch) (7 : Int) from hM9 _ _ ho4.1 (own_z ho4.1) (by rw [ho4.2]; rfl)).trans (show Fx (ch) (7 : Int) = F (ch) (7 : Int) from hMx _ _ ho4.1 (own_z ho4.1) (by rw [ho4.2]; rfl)))))] at z; exact z
      refine cx_vi (c := 11) (a := me) (st := []) (as := [rv (F (ch) (7 : Int))]) rfl rfl rfl o_me t_me (by decide) rfl ⟨rfl, rfl, (Nat.le_of_ble_eq_true rfl)⟩ rfl (hE2 (dd := d) (R := R) (m := m) (tg := tg) (ln := ln) (F := F19) (me := me) (p := F (ch) (7 : Int)) (hd := by omega) (hC := hC20) (o_me := o_me) (t_me := t_me) (y_p := y24) (c_PSx := c22) (c_NT := NT_q hC c_NT hM23 rfl) (n_p := (SN_q (SN_w (k' := kk - 1) (SN_c hC c_NT sx_ch (own_z ho4.1) (by omega)) (by omega)) hM23 rfl rfl))) (fun o V' hq => ?_)
      obtain ⟨F25, rfl, rfl, hC26, hM27, c28, -⟩ := hq
      have hM29 : Fq 0 [(7, 11), (8, 15), (8, 16), (8, 17), (8, 18), (12, 2), (12, 4), (24, -5), (8, 13), (8, 14)] m tg F F25 := Fq_t (ln := ln) (ln1 := ln) hM23 Ex_r hM27 (by decide) (Or.inl rfl)
      refine Or.inl ⟨rfl, ?_⟩
      refine jx_ld (pc' := 45) (l' := L) (st' := [rv (ch)]) rfl (jl_rvn gL_2) ?_
      refine cx_gr (pc' := 48) (c := 7) (q := 8) (v := F (ch) (8 : Int)) rfl rfl (by decide) (by decide) rfl rfl ho4.1 ho4.2 ((show F25 (ch) (8 : Int) = F19 (ch) (8 : Int) from hM27 _ _ ho4.1 (own_z ho4.1) (by rw [ho4.2]; rfl)).trans ((show F19 (ch) (8 : Int) = F13 (ch) (8 : Int) from hM21 _ _ ho4.1 (own_z ho4.1) (by rw [ho4.2]; rfl)).trans ((show F13 (ch) (8 : Int) = F7 (ch) (8 : Int) from hM15 _ _ ho4.1 (own_z ho4.1) (by rw [ho4.2]; rfl)).trans ((show F7 (ch) (8 : Int) = Fx (ch) (8 : Int) from hM9 _ _ ho4.1 (own_z ho4.1) (by rw [ho4.2]; rfl)).trans (show Fx (ch) (8 : Int) = F (ch) (8 : Int) from hMx _ _ ho4.1 (own_z ho4.1) (by rw [ho4.2]; rfl)))))) ?_
      have y30 : F (ch) (8 : Int) = 0 ∨ (own m (F (ch) (8 : Int)) ∧ tg (F (ch) (8 : Int)) = 8) := by have z := HC_r (c := 7) (q := 8) hC26 ho4.1 ho4.2 (by decide) rfl; rw [show F25 (ch) ((8 : Nat) : Int) = F (ch) (8 : Int) from ((show F25 (ch) (8 : Int) = F19 (ch) (8 : Int) from hM27 _ _ ho4.1 (own_z ho4.1) (by rw [ho4.2]; rfl)).trans ((show F19 (ch) (8 : Int) = F13 (ch) (8 : Int) from hM21 _ _ ho4.1 (own_z ho4.1) (by rw [ho4.2]; rfl)).trans ((show F13 (ch) (8 : Int) = F7 (ch) (8 : Int) from hM15 _ _ ho4.1 (own_z ho4.1) (by rw [ho4.2]; rfl)).trans ((show F7 (ch) (8 : Int) = Fx (ch) (8 : Int) from hM9 _ _ ho4.1 (own_z ho4.1) (by rw [ho4.2]; rfl)).trans (show Fx (ch) (8 : Int) = F (ch) (8 : Int) from hMx _ _ ho4.1 (own_z ho4.1) (by rw [ho4.2]; rfl))))))] at z; exact z
      have z31 := mz_n hC c_NT sx_ch (own_z ho4.1)
      refine jx_ld (pc' := 49) (l' := jSto1 L 2 (rv (F (ch) (8 : Int)))) (st' := []) rfl (js_rvn (by decide)) ?_
      obtain ⟨L32, eL32⟩ : ∃ q : jL, q = jSto1 L 2 (rv (F (ch) (8 : Int))) := ⟨_, rfl⟩
      rw [← eL32]
      have g33 : jGet L32 0 = some (rv (me)) := eL32 ▸ jg_nr (by decide) gL_0
      have g34 : jGet L32 1 = some (rv (p)) := eL32 ▸ jg_nr (by decide) gL_1
      have g35 : jGet L32 2 = some (rv (F (ch) (8 : Int))) := eL32 ▸ jg_eq
      clear eL32
      refine jx_go (tg := 5) rfl rfl ?_
      exact ih _ (by omega) L32 F25 (F (ch) (8 : Int)) rfl g33 g34 g35 hC26 hM29 y30 (SN_w (SN_n hC c_NT sx_ch (own_z ho4.1)) (by omega)) (PSx_m c28 (by omega))
set_option maxRecDepth 20000 in
set_option maxHeartbeats 4000000 in
theorem k_LUses_choices {X : jX} {kk : Nat} (hE : 1 ≤ kk → UPx X (kk - 1)) {dd : Nat} {R : Nat → jC} {m : Nat} {tg ln : Int → Int} {F : Int → Int → Int} {me p : Int} (hd : 3 * kk + 15 ≤ dd) (hC : HC 0 m tg ln F) (o_me : own m me) (t_me : tg me = 12) (o_p : own m p) (t_p : tg p = 8) (c_PSx : PSx m tg F) (c_NT : NT m tg F) (n_p : SN m tg F p (kk)) : wk X dd 229 [rv me, rv p] (cV R m tg ln F) (fun o V' => ∃ (F' : Int → Int → Int), V' = cV R m tg ln F' ∧ o = .inl none ∧ HC 0 m tg ln F' ∧ Fq 0 [(7, 11), (8, 15), (8, 16), (8, 17), (8, 18), (12, 2), (12, 4), (24, -5), (8, 13), (8, 14)] m tg F F' ∧ (PSx m tg F') ∧ True) := by
  obtain ⟨d, rfl⟩ : ∃ d, dd = d + 1 := ⟨dd - 1, by omega⟩
  refine wk_of (e := jm229) rfl (by rw [jS_r, jS_r, jS_0]; exact Nat.le_of_ble_eq_true rfl) ?_
  rw [la_r, la_r, la_0]
  show wj X d jm229 (0, [(0, rv (me)), (1, rv (p))], [], cV R m tg ln F) _
  have hM0 : Fq 0 [(7, 11), (8, 15), (8, 16), (8, 17), (8, 18), (12, 2), (12, 4), (24, -5), (8, 13), (8, 14)] m tg F F := Fq_r
  obtain ⟨L0, eL0⟩ : ∃ q : jL, q = [(0, rv (me)), (1, rv (p))] := ⟨_, rfl⟩
  rw [← eL0]
  have g36 : jGet L0 0 = some (rv (me)) := eL0 ▸ (rfl : jGet [(0, rv (me)), (1, rv (p))] 0 = some (rv (me)))
  have g37 : jGet L0 1 = some (rv (p)) := eL0 ▸ (rfl : jGet [(0, rv (me)), (1, rv (p))] 1 = some (rv (p)))
  clear eL0
  have k38 := SN_p n_p (own_z o_p)
  have hE39 := hE (by omega)
  refine jx_ld (pc' := 1) (l' := L0) (st' := [rv (p)]) rfl (jl_rvn g37) ?_
  refine cx_gr (pc' := 4) (c := 7) (q := 4) (v := F (p) (4 : Int)) rfl rfl (by decide) (by decide) rfl rfl o_p t_p rfl ?_
  have y40 : F (p) (4 : Int) = 0 ∨ (own m (F (p) (4 : Int)) ∧ tg (F (p) (4 : Int)) = 8) := by have z := HC_r (c := 7) (q := 4) hC o_p t_p (by decide) rfl; rw [show F (p) ((4 : Nat) : Int) = F (p) (4 : Int) from rfl] at z; exact z
  refine jx_ld (pc' := 5) (l' := jSto1 L0 2 (rv (F (p) (4 : Int)))) (st' := []) rfl (js_rvn (by decide)) ?_
  obtain ⟨L41, eL41⟩ : ∃ q : jL, q = jSto1 L0 2 (rv (F (p) (4 : Int))) := ⟨_, rfl⟩
  rw [← eL41]
  have g42 : jGet L41 0 = some (rv (me)) := eL41 ▸ jg_nr (by decide) g36
  have g43 : jGet L41 1 = some (rv (p)) := eL41 ▸ jg_nr (by decide) g37
  have g44 : jGet L41 2 = some (rv (F (p) (4 : Int))) := eL41 ▸ jg_eq
  clear eL41
  exact k_LUses_choices_at_5 (X := X) (kk := kk) (hE := hE) (d := d) (R := R) (m := m) (tg := tg) (ln := ln) (F := F) (me := me) (p := p) (hd := hd) (hC := hC) (o_me := o_me) (t_me := t_me) (o_p := o_p) (t_p := t_p) (c_PSx := c_PSx) (c_NT := c_NT) (n_p := n_p) _ L41 F (F (p) (4 : Int)) rfl g42 g43 g44 hC hM0 y40 (SN_w (SN_c hC c_NT n_p (own_z o_p) (by omega)) (by omega)) (PSx_m c_PSx (by omega))
set_option maxRecDepth 20000 in
set_option maxHeartbeats 4000000 in
theorem k_LUses_branches_at_81 {X : jX} {kk : Nat} (hE : 1 ≤ kk → UPx X (kk - 1)) {d : Nat} {R : Nat → jC} {m : Nat} {tg ln : Int → Int} {F : Int → Int → Int} {me p : Int} (hd : 3 * kk + 15 ≤ d + 1) (hC : HC 0 m tg ln F) (o_me : own m me) (t_me : tg me = 12) (o_p : own m p) (t_p : tg p = 8) (c_PSx : PSx m tg F) (c_NT : NT m tg F) (n_p : SN m tg F p (kk)) : ∀ (mm : Nat) (L : jL) (Fx : Int → Int → Int) (b : Int), (mz m b).toNat = mm → jGet L 0 = some (rv (me)) → jGet L 1 = some (rv (p)) → jGet L 2 = some (rv b) → HC 0 m tg ln Fx → Fq 0 [(7, 11), (8, 15), (8, 16), (8, 17), (8, 18), (12, 2), (12, 4), (24, -5), (8, 13), (8, 14)] m tg F Fx → (b = 0 ∨ (own m b ∧ tg b = 8)) → (SN m tg F b (kk - 1)) → (PSx m tg Fx) → wj X d jm237 (81, L, [], cV R m tg ln Fx) (fun o V' => ∃ (F' : Int → Int → Int), V' = cV R m tg ln F' ∧ o = .inl none ∧ HC 0 m tg ln F' ∧ Fq 0 [(7, 11), (8, 15), (8, 16), (8, 17), (8, 18), (12, 2), (12, 4), (24, -5), (8, 13), (8, 14)] m tg F F' ∧ (PSx m tg F') ∧ True) := by
  intro mm
  induction mm using Nat.strongRecOn with
  | ind mm ih =>
    intro L Fx b hmm gL_0 gL_1 gL_2 hCx hMx yx_b sx_b cx_PSx
    have k1 := SN_p n_p (own_z o_p)
    have hE2 := hE (by omega)
    refine jx_ld (pc' := 82) (l' := L) (st' := [rv (b)]) rfl (jl_rvn gL_2) ?_
    refine cx_nul (pc' := 85) (tg' := 117) rfl rfl rfl (fun h3 => ?_) (fun h3 => ?_)
    · have _q := h3
      refine jx_rt (v := none) rfl rfl rfl rfl rfl rfl ?_
      exact ⟨Fx, rfl, rfl, hCx, hMx, PSx_m cx_PSx (by omega), trivial⟩
    · have _q := h3
      have ho4 : own m (b) ∧ tg (b) = 8 := yx_b.resolve_left h3
      have k5 := SN_p sx_b h3
      refine jx_ld (pc' := 86) (l' := L) (st' := [rv (b)]) rfl (jl_rvn gL_2) ?_
      refine cx_gr (pc' := 89) (c := 7) (q := 8) (v := F (b) (8 : Int)) rfl rfl (by decide) (by decide) rfl rfl ho4.1 ho4.2 (show Fx (b) (8 : Int) = F (b) (8 : Int) from hMx _ _ ho4.1 (own_z ho4.1) (by rw [ho4.2]; rfl)) ?_
      have y6 : F (b) (8 : Int) = 0 ∨ (own m (F (b) (8 : Int)) ∧ tg (F (b) (8 : Int)) = 8) := by have z := HC_r (c := 7) (q := 8) hCx ho4.1 ho4.2 (by decide) rfl; rw [show Fx (b) ((8 : Nat) : Int) = F (b) (8 : Int) from (show Fx (b) (8 : Int) = F (b) (8 : Int) from hMx _ _ ho4.1 (own_z ho4.1) (by rw [ho4.2]; rfl))] at z; exact z
      have z7 := mz_n hC c_NT sx_b (own_z ho4.1)
      refine jx_ld (pc' := 90) (l' := jSto1 L 3 (rv (F (b) (8 : Int)))) (st' := []) rfl (js_rvn (by decide)) ?_
      obtain ⟨L8, eL8⟩ : ∃ q : jL, q = jSto1 L 3 (rv (F (b) (8 : Int))) := ⟨_, rfl⟩
      rw [← eL8]
      have g9 : jGet L8 0 = some (rv (me)) := eL8 ▸ jg_nr (by decide) gL_0
      have g10 : jGet L8 1 = some (rv (p)) := eL8 ▸ jg_nr (by decide) gL_1
      have g11 : jGet L8 2 = some (rv (b)) := eL8 ▸ jg_nr (by decide) gL_2
      have g12 : jGet L8 3 = some (rv (F (b) (8 : Int))) := eL8 ▸ jg_eq
      clear eL8
      have hin : ∀ (mm2 : Nat) (L2 : jL) (Fx2 : Int → Int → Int) (o : Int), (mz m o).toNat = mm2 → jGet L2 0 = some (rv (me)) → jGet L2 1 = some (rv (p)) → jGet L2 2 = some (rv (b)) → jGet L2 3 = some (rv o) → HC 0 m tg ln Fx2 → Fq 0 [(7, 11), (8, 15), (8, 16), (8, 17), (8, 18), (12, 2), (12, 4), (24, -5), (8, 13), (8, 14)] m tg F Fx2 → (o = 0 ∨ (own m o ∧ tg o = 8)) → (SN m tg F o (kk - 1)) → (PSx m tg Fx2) → wj X d jm237 (90, L2, [], cV R m tg ln Fx2) (fun o V' => ∃ (F' : Int → Int → Int), V' = cV R m tg ln F' ∧ o = .inl none ∧ HC 0 m tg ln F' ∧ Fq 0 [(7, 11), (8, 15), (8, 16), (8, 17), (8, 18), (12, 2), (12, 4), (24, -5), (8, 13), (8, 14)] m tg F F' ∧ (PSx m tg F') ∧ True) := by
        intro mm2
        induction mm2 using Nat.strongRecOn with
        | ind mm2 ih2 =>
          intro L2 Fx2 o hmm2 gL2_0 gL2_1 gL2_2 gL2_3 hCx2 hMx2 yx2_o sx2_o cx2_PSx
          refine jx_ld (pc' := 91) (l' := L2) (st' := [rv (o)]) rfl (jl_rvn gL2_3) ?_
          refine cx_nul (pc' := 94) (tg' := 109) rfl rfl rfl (fun h13 => ?_) (fun h13 => ?_)
          · have _q := h13
            refine jx_ld (pc' := 110) (l' := L2) (st' := [rv (b)]) rfl (jl_rvn gL2_2) ?_
            refine cx_gr (pc' := 113) (c := 7) (q := 8) (v := F (b) (8 : Int)) rfl rfl (by decide) (by decide) rfl rfl ho4.1 ho4.2 (show Fx2 (b) (8 : Int) = F (b) (8 : Int) from hMx2 _ _ ho4.1 (own_z ho4.1) (by rw [ho4.2]; rfl)) ?_
            refine jx_ld (pc' := 114) (l' := jSto1 L2 2 (rv (F (b) (8 : Int)))) (st' := []) rfl (js_rvn (by decide)) ?_
            obtain ⟨L14, eL14⟩ : ∃ q : jL, q = jSto1 L2 2 (rv (F (b) (8 : Int))) := ⟨_, rfl⟩
            rw [← eL14]
            have g15 : jGet L14 0 = some (rv (me)) := eL14 ▸ jg_nr (by decide) gL2_0
            have g16 : jGet L14 1 = some (rv (p)) := eL14 ▸ jg_nr (by decide) gL2_1
            have g17 : jGet L14 3 = some (rv (o)) := eL14 ▸ jg_nr (by decide) gL2_3
            have g18 : jGet L14 2 = some (rv (F (b) (8 : Int))) := eL14 ▸ jg_eq
            clear eL14
            refine jx_go (tg := 81) rfl rfl ?_
            exact ih _ (by omega) L14 Fx2 (F (b) (8 : Int)) rfl g15 g16 g18 hCx2 hMx2 y6 (SN_w (SN_n hC c_NT sx_b (own_z ho4.1)) (by omega)) (PSx_m cx2_PSx (by omega))
          · have _q := h13
            have ho19 : own m (o) ∧ tg (o) = 8 := yx2_o.resolve_left h13
            have k20 := SN_p sx2_o h13
            refine jx_ld (pc' := 95) (l' := L2) (st' := [rv (me)]) rfl (jl_rvn gL2_0) ?_
            refine jx_ld (pc' := 96) (l' := L2) (st' := [rv (p), rv (me)]) rfl (jl_rvn gL2_1) ?_
            refine jx_ld (pc' := 97) (l' := L2) (st' := [rv (b), rv (p), rv (me)]) rfl (jl_rvn gL2_2) ?_
            refine jx_ld (pc' := 98) (l' := L2) (st' := [rv (o), rv (b), rv (p), rv (me)]) rfl (jl_rvn gL2_3) ?_
            refine cx_vi (c := 11) (a := me) (st := []) (as := [rv (p), rv (b), rv (o)]) rfl rfl rfl o_me t_me (by decide) rfl ⟨rfl, rfl, (Nat.le_of_ble_eq_true rfl)⟩ rfl (k_LUses_compare (dd := d) (R := R) (m := m) (tg := tg) (ln := ln) (F := Fx2) (me := me) (pr := p) (b := b) (o := o) (hd := by omega) (hC := hCx2) (o_me := o_me) (t_me := t_me) (o_pr := o_p) (t_pr := t_p) (o_b := ho4.1) (t_b := ho4.2) (o_o := ho19.1) (t_o := ho19.2) (c_PSx := cx2_PSx)) (fun o V' hq => ?_)
            obtain ⟨F21, rfl, rfl, hC22, hM23, c24, -⟩ := hq
            have hM25 : Fq 0 [(7, 11), (8, 15), (8, 16), (8, 17), (8, 18), (12, 2), (12, 4), (24, -5), (8, 13), (8, 14)] m tg F F21 := Fq_t (ln := ln) (ln1 := ln) hMx2 Ex_r hM23 (by decide) (Or.inl rfl)
            refine Or.inl ⟨rfl, ?_⟩
            refine jx_ld (pc' := 102) (l' := L2) (st' := [rv (o)]) rfl (jl_rvn gL2_3) ?_
            refine cx_gr (pc' := 105) (c := 7) (q := 8) (v := F (o) (8 : Int)) rfl rfl (by decide) (by decide) rfl rfl ho19.1 ho19.2 ((show F21 (o) (8 : Int) = Fx2 (o) (8 : Int) from hM23 _ _ ho19.1 (own_z ho19.1) (by rw [ho19.2]; rfl)).trans (show Fx2 (o) (8 : Int) = F (o) (8 : Int) from hMx2 _ _ ho19.1 (own_z ho19.1) (by rw [ho19.2]; rfl))) ?_
            have y26 : F (o) (8 : Int) = 0 ∨ (own m (F (o) (8 : Int)) ∧ tg (F (o) (8 : Int)) = 8) := by have z := HC_r (c := 7) (q := 8) hC22 ho19.1 ho19.2 (by decide) rfl; rw [show F21 (o) ((8 : Nat) : Int) = F (o) (8 : Int) from ((show F21 (o) (8 : Int) = Fx2 (o) (8 : Int) from hM23 _ _ ho19.1 (own_z ho19.1) (by rw [ho19.2]; rfl)).trans (show Fx2 (o) (8 : Int) = F (o) (8 : Int) from hMx2 _ _ ho19.1 (own_z ho19.1) (by rw [ho19.2]; rfl)))] at z; exact z
            have z27 := mz_n hC c_NT sx2_o (own_z ho19.1)
            refine jx_ld (pc' := 106) (l' := jSto1 L2 3 (rv (F (o) (8 : Int)))) (st' := []) rfl (js_rvn (by decide)) ?_
            obtain ⟨L28, eL28⟩ : ∃ q : jL, q = jSto1 L2 3 (rv (F (o) (8 : Int))) := ⟨_, rfl⟩
            rw [← eL28]
            have g29 : jGet L28 0 = some (rv (me)) := eL28 ▸ jg_nr (by decide) gL2_0
            have g30 : jGet L28 1 = some (rv (p)) := eL28 ▸ jg_nr (by decide) gL2_1
            have g31 : jGet L28 2 = some (rv (b)) := eL28 ▸ jg_nr (by decide) gL2_2
            have g32 : jGet L28 3 = some (rv (F (o) (8 : Int))) := eL28 ▸ jg_eq
            clear eL28
            refine jx_go (tg := 90) rfl rfl ?_
            exact ih2 _ (by omega) L28 F21 (F (o) (8 : Int)) rfl g29 g30 g31 g32 hC22 hM25 y26 (SN_w (SN_n hC c_NT sx2_o (own_z ho19.1)) (by omega)) (PSx_m c24 (by omega))
      exact hin _ L8 Fx (F (b) (8 : Int)) rfl g9 g10 g11 g12 hCx hMx y6 (SN_w (SN_n hC c_NT sx_b (own_z ho4.1)) (by omega)) (PSx_m cx_PSx (by omega))
set_option maxRecDepth 20000 in
set_option maxHeartbeats 4000000 in
theorem k_LUses_branches_at_5 {X : jX} {kk : Nat} (hE : 1 ≤ kk → UPx X (kk - 1)) {d : Nat} {R : Nat → jC} {m : Nat} {tg ln : Int → Int} {F : Int → Int → Int} {me p : Int} (hd : 3 * kk + 15 ≤ d + 1) (hC : HC 0 m tg ln F) (o_me : own m me) (t_me : tg me = 12) (o_p : own m p) (t_p : tg p = 8) (c_PSx : PSx m tg F) (c_NT : NT m tg F) (n_p : SN m tg F p (kk)) : ∀ (mm : Nat) (L : jL) (Fx : Int → Int → Int) (b : Int), (mz m b).toNat = mm → jGet L 0 = some (rv (me)) → jGet L 1 = some (rv (p)) → jGet L 2 = some (rv b) → HC 0 m tg ln Fx → Fq 0 [(7, 11), (8, 15), (8, 16), (8, 17), (8, 18), (12, 2), (12, 4), (24, -5), (8, 13), (8, 14)] m tg F Fx → (b = 0 ∨ (own m b ∧ tg b = 8)) → (SN m tg F b (kk - 1)) → (PSx m tg Fx) → wj X d jm237 (5, L, [], cV R m tg ln Fx) (fun o V' => ∃ (F' : Int → Int → Int), V' = cV R m tg ln F' ∧ o = .inl none ∧ HC 0 m tg ln F' ∧ Fq 0 [(7, 11), (8, 15), (8, 16), (8, 17), (8, 18), (12, 2), (12, 4), (24, -5), (8, 13), (8, 14)] m tg F F' ∧ (PSx m tg F') ∧ True) := by
  intro mm
  induction mm using Nat.strongRecOn with
  | ind mm ih =>
    intro L Fx b hmm gL_0 gL_1 gL_2 hCx hMx yx_b sx_b cx_PSx
    have k33 := SN_p n_p (own_z o_p)
    have hE34 := hE (by omega)
    refine jx_ld (pc' := 6) (l' := L) (st' := [rv (b)]) rfl (jl_rvn gL_2) ?_
    refine cx_nul (pc' := 9) (tg' := 38) rfl rfl rfl (fun h35 => ?_) (fun h35 => ?_)
    · have _q := h35
      refine jx_ld (pc' := 39) (l' := L) (st' := [rv (p)]) rfl (jl_rvn gL_1) ?_
      refine cx_gi (pc' := 42) (c := 7) (q := 0) (v := F (p) (0 : Int)) rfl rfl (by decide) (by decide) (Or.inl rfl) rfl o_p t_p (show Fx (p) (0 : Int) = F (p) (0 : Int) from hMx _ _ o_p (own_z o_p) (by rw [t_p]; rfl)) ?_
      have b36 : (-2147483648 : Int) ≤ F (p) (0 : Int) ∧ F (p) (0 : Int) ≤ 2147483647 := by have z := HC_i (c := 7) (q := 0) hCx o_p t_p (by decide) rfl; rw [show Fx (p) ((0 : Nat) : Int) = F (p) (0 : Int) from (show Fx (p) (0 : Int) = F (p) (0 : Int) from hMx _ _ o_p (own_z o_p) (by rw [t_p]; rfl))] at z; exact z
      refine jx_ar (pc' := 44) (st' := [.int (i32 (10)), .int (i32 (F (p) (0 : Int)))]) rfl rfl rfl rfl ?_
      refine jx_icmp_ne (pc' := 47) (tg := 76) rfl rfl rfl (by omega) (by omega) (by decide) (by decide) (fun h37 => ?_) (fun h37 => ?_)
      · have _q := h37
        refine jx_ld (pc' := 77) (l' := L) (st' := [rv (p)]) rfl (jl_rvn gL_1) ?_
        refine cx_gr (pc' := 80) (c := 7) (q := 4) (v := F (p) (4 : Int)) rfl rfl (by decide) (by decide) rfl rfl o_p t_p (show Fx (p) (4 : Int) = F (p) (4 : Int) from hMx _ _ o_p (own_z o_p) (by rw [t_p]; rfl)) ?_
        have y38 : F (p) (4 : Int) = 0 ∨ (own m (F (p) (4 : Int)) ∧ tg (F (p) (4 : Int)) = 8) := by have z := HC_r (c := 7) (q := 4) hCx o_p t_p (by decide) rfl; rw [show Fx (p) ((4 : Nat) : Int) = F (p) (4 : Int) from (show Fx (p) (4 : Int) = F (p) (4 : Int) from hMx _ _ o_p (own_z o_p) (by rw [t_p]; rfl))] at z; exact z
        refine jx_ld (pc' := 81) (l' := jSto1 L 2 (rv (F (p) (4 : Int)))) (st' := []) rfl (js_rvn (by decide)) ?_
        obtain ⟨L39, eL39⟩ : ∃ q : jL, q = jSto1 L 2 (rv (F (p) (4 : Int))) := ⟨_, rfl⟩
        rw [← eL39]
        have g40 : jGet L39 0 = some (rv (me)) := eL39 ▸ jg_nr (by decide) gL_0
        have g41 : jGet L39 1 = some (rv (p)) := eL39 ▸ jg_nr (by decide) gL_1
        have g42 : jGet L39 2 = some (rv (F (p) (4 : Int))) := eL39 ▸ jg_eq
        clear eL39
        exact k_LUses_branches_at_81 (X := X) (kk := kk) (hE := hE) (d := d) (R := R) (m := m) (tg := tg) (ln := ln) (F := F) (me := me) (p := p) (hd := hd) (hC := hC) (o_me := o_me) (t_me := t_me) (o_p := o_p) (t_p := t_p) (c_PSx := c_PSx) (c_NT := c_NT) (n_p := n_p) _ L39 Fx (F (p) (4 : Int)) rfl g40 g41 g42 hCx hMx y38 (SN_w (SN_c hC c_NT n_p (own_z o_p) (by omega)) (by omega)) (PSx_m cx_PSx (by omega))
      · have _q := h37
        refine jx_ld (pc' := 48) (l' := L) (st' := [rv (p)]) rfl (jl_rvn gL_1) ?_
        refine cx_gr (pc' := 51) (c := 7) (q := 4) (v := F (p) (4 : Int)) rfl rfl (by decide) (by decide) rfl rfl o_p t_p (show Fx (p) (4 : Int) = F (p) (4 : Int) from hMx _ _ o_p (own_z o_p) (by rw [t_p]; rfl)) ?_
        have y43 : F (p) (4 : Int) = 0 ∨ (own m (F (p) (4 : Int)) ∧ tg (F (p) (4 : Int)) = 8) := by have z := HC_r (c := 7) (q := 4) hCx o_p t_p (by decide) rfl; rw [show Fx (p) ((4 : Nat) : Int) = F (p) (4 : Int) from (show Fx (p) (4 : Int) = F (p) (4 : Int) from hMx _ _ o_p (own_z o_p) (by rw [t_p]; rfl))] at z; exact z
        refine cx_nul (pc' := 54) (tg' := 75) rfl rfl rfl (fun h44 => ?_) (fun h44 => ?_)
        · have _q := h44
          refine jx_rt (v := none) rfl rfl rfl rfl rfl rfl ?_
          exact ⟨Fx, rfl, rfl, hCx, hMx, PSx_m cx_PSx (by omega), trivial⟩
        · have _q := h44
          have ho45 : own m (F (p) (4 : Int)) ∧ tg (F (p) (4 : Int)) = 8 := y43.resolve_left h44
          have k46 := SN_p (SN_c hC c_NT n_p (own_z o_p) (by omega)) h44
          refine jx_ld (pc' := 55) (l' := L) (st' := [rv (p)]) rfl (jl_rvn gL_1) ?_
          refine cx_gi (pc' := 58) (c := 7) (q := 2) (v := F (p) (2 : Int)) rfl rfl (by decide) (by decide) (Or.inl rfl) rfl o_p t_p (show Fx (p) (2 : Int) = F (p) (2 : Int) from hMx _ _ o_p (own_z o_p) (by rw [t_p]; rfl)) ?_
          have b47 : (-2147483648 : Int) ≤ F (p) (2 : Int) ∧ F (p) (2 : Int) ≤ 2147483647 := by have z := HC_i (c := 7) (q := 2) hCx o_p t_p (by decide) rfl; rw [show Fx (p) ((2 : Nat) : Int) = F (p) (2 : Int) from (show Fx (p) (2 : Int) = F (p) (2 : Int) from hMx _ _ o_p (own_z o_p) (by rw [t_p]; rfl))] at z; exact z
          refine jx_ar (pc' := 59) (st' := [.int (i32 (1)), .int (i32 (F (p) (2 : Int)))]) rfl rfl rfl rfl ?_
          refine jx_icmp_le (pc' := 62) (tg := 75) rfl rfl rfl (by omega) (by omega) (by decide) (by decide) (fun h48 => ?_) (fun h48 => ?_)
          · have _q := h48
            refine jx_rt (v := none) rfl rfl rfl rfl rfl rfl ?_
            exact ⟨Fx, rfl, rfl, hCx, hMx, PSx_m cx_PSx (by omega), trivial⟩
          · have _q := h48
            refine jx_ld (pc' := 63) (l' := L) (st' := [rv (me)]) rfl (jl_rvn gL_0) ?_
            refine jx_ld (pc' := 64) (l' := L) (st' := [rv (p), rv (me)]) rfl (jl_rvn gL_1) ?_
            refine jx_ld (pc' := 65) (l' := L) (st' := [rv (p), rv (p), rv (me)]) rfl (jl_rvn gL_1) ?_
            refine cx_gr (pc' := 68) (c := 7) (q := 4) (v := F (p) (4 : Int)) rfl rfl (by decide) (by decide) rfl rfl o_p t_p (show Fx (p) (4 : Int) = F (p) (4 : Int) from hMx _ _ o_p (own_z o_p) (by rw [t_p]; rfl)) ?_
            refine jx_ld (pc' := 69) (l' := L) (st' := [rv (p), rv (F (p) (4 : Int)), rv (p), rv (me)]) rfl (jl_rvn gL_1) ?_
            refine cx_gr (pc' := 72) (c := 7) (q := 4) (v := F (p) (4 : Int)) rfl rfl (by decide) (by decide) rfl rfl o_p t_p (show Fx (p) (4 : Int) = F (p) (4 : Int) from hMx _ _ o_p (own_z o_p) (by rw [t_p]; rfl)) ?_
            refine cx_vi (c := 11) (a := me) (st := []) (as := [rv (p), rv (F (p) (4 : Int)), rv (F (p) (4 : Int))]) rfl rfl rfl o_me t_me (by decide) rfl ⟨rfl, rfl, (Nat.le_of_ble_eq_true rfl)⟩ rfl (k_LUses_compare (dd := d) (R := R) (m := m) (tg := tg) (ln := ln) (F := Fx) (me := me) (pr := p) (b := F (p) (4 : Int)) (o := F (p) (4 : Int)) (hd := by omega) (hC := hCx) (o_me := o_me) (t_me := t_me) (o_pr := o_p) (t_pr := t_p) (o_b := ho45.1) (t_b := ho45.2) (o_o := ho45.1) (t_o := ho45.2) (c_PSx := cx_PSx)) (fun o V' hq => ?_)
            obtain ⟨F49, rfl, rfl, hC50, hM51, c52, -⟩ := hq
            have hM53 : Fq 0 [(7, 11), (8, 15), (8, 16), (8, 17), (8, 18), (12, 2), (12, 4), (24, -5), (8, 13), (8, 14)] m tg F F49 := Fq_t (ln := ln) (ln1 := ln) hMx Ex_r hM51 (by decide) (Or.inl rfl)
            refine Or.inl ⟨rfl, ?_⟩
            refine jx_rt (v := none) rfl rfl rfl rfl rfl rfl ?_
            exact ⟨F49, rfl, rfl, hC50, hM53, PSx_m c52 (by omega), trivial⟩
    · have _q := h35
      have ho54 : own m (b) ∧ tg (b) = 8 := yx_b.resolve_left h35
      have k55 := SN_p sx_b h35
      refine jx_ld (pc' := 10) (l' := L) (st' := [rv (b)]) rfl (jl_rvn gL_2) ?_
      refine jx_ld (pc' := 11) (l' := L) (st' := [rv (me), rv (b)]) rfl (jl_rvn gL_0) ?_
      refine cx_gi (pc' := 14) (c := 11) (q := 2) (v := Fx (me) (2 : Int)) rfl rfl (by decide) (by decide) (Or.inl rfl) rfl o_me t_me rfl ?_
      have b56 : (0 : Int) ≤ Fx (me) (2 : Int) ∧ Fx (me) (2 : Int) ≤ 1000000 := by have z := HC_i (c := 11) (q := 2) hCx o_me t_me (by decide) rfl; rw [show Fx (me) ((2 : Nat) : Int) = Fx (me) (2 : Int) from rfl] at z; exact z
      refine cx_pi (pc' := 17) (c := 7) (q := 13) (qi := (13 : Int)) (z := Fx (me) (2 : Int)) rfl rfl (by decide) (by decide) rfl rfl rfl (by decide) rfl ho54.1 ho54.2 rfl ?_
      obtain ⟨F57, eF57⟩ : ∃ q, q = uF Fx (b) (13 : Int) (Fx (me) (2 : Int)) := ⟨_, rfl⟩
      rw [← eF57]
      have hC58 : HC 0 m tg ln F57 := by rw [eF57]; exact HC_fi (c := 7) (q := 13) hCx ho54.2 (by decide) rfl (by omega) (by omega) ⟨fun w => absurd w (by decide), fun w => absurd w (by decide)⟩
      have hM59 : Fq 0 [(7, 11), (8, 15), (8, 16), (8, 17), (8, 18), (12, 2), (12, 4), (24, -5), (8, 13), (8, 14)] m tg F F57 := by rw [eF57]; exact Fq_p hMx ho54.2 (fun _ => rfl) rfl
      have c60 : PSx m tg F57 := by rw [eF57]; exact PSx_u cx_PSx ho54.2 (by omega)
      refine jx_ld (pc' := 18) (l' := L) (st' := [rv (me)]) rfl (jl_rvn gL_0) ?_
      refine jx_ld (pc' := 19) (l' := L) (st' := [rv (b), rv (me)]) rfl (jl_rvn gL_2) ?_
      refine cx_vi (c := 11) (a := me) (st := []) (as := [rv (b)]) rfl rfl rfl o_me t_me (by decide) rfl ⟨rfl, rfl, (Nat.le_of_ble_eq_true rfl)⟩ rfl (hE34 (dd := d) (R := R) (m := m) (tg := tg) (ln := ln) (F := F57) (me := me) (p := b) (hd := by omega) (hC := hC58) (o_me := o_me) (t_me := t_me) (y_p := (Or.inr ⟨ho54.1, ho54.2⟩)) (c_PSx := c60) (c_NT := NT_q hC c_NT hM59 rfl) (n_p := (SN_q (SN_w (k' := kk - 1) sx_b (by omega)) hM59 rfl rfl))) (fun o V' hq => ?_)
      obtain ⟨F61, rfl, rfl, hC62, hM63, c64, -⟩ := hq
      have hM65 : Fq 0 [(7, 11), (8, 15), (8, 16), (8, 17), (8, 18), (12, 2), (12, 4), (24, -5), (8, 13), (8, 14)] m tg F F61 := Fq_t (ln := ln) (ln1 := ln) hM59 Ex_r hM63 (by decide) (Or.inl rfl)
      refine Or.inl ⟨rfl, ?_⟩
      refine jx_ld (pc' := 23) (l' := L) (st' := [rv (b)]) rfl (jl_rvn gL_2) ?_
      refine jx_ld (pc' := 24) (l' := L) (st' := [rv (me), rv (b)]) rfl (jl_rvn gL_0) ?_
      refine cx_gi (pc' := 27) (c := 11) (q := 2) (v := F61 (me) (2 : Int)) rfl rfl (by decide) (by decide) (Or.inl rfl) rfl o_me t_me rfl ?_
      have b66 : (0 : Int) ≤ F61 (me) (2 : Int) ∧ F61 (me) (2 : Int) ≤ 1000000 := by have z := HC_i (c := 11) (q := 2) hC62 o_me t_me (by decide) rfl; rw [show F61 (me) ((2 : Nat) : Int) = F61 (me) (2 : Int) from rfl] at z; exact z
      refine cx_pi (pc' := 30) (c := 7) (q := 14) (qi := (14 : Int)) (z := F61 (me) (2 : Int)) rfl rfl (by decide) (by decide) rfl rfl rfl (by decide) rfl ho54.1 ho54.2 rfl ?_
      obtain ⟨F67, eF67⟩ : ∃ q, q = uF F61 (b) (14 : Int) (F61 (me) (2 : Int)) := ⟨_, rfl⟩
      rw [← eF67]
      have hC68 : HC 0 m tg ln F67 := by rw [eF67]; exact HC_fi (c := 7) (q := 14) hC62 ho54.2 (by decide) rfl (by omega) (by omega) ⟨fun w => absurd w (by decide), fun w => absurd w (by decide)⟩
      have hM69 : Fq 0 [(7, 11), (8, 15), (8, 16), (8, 17), (8, 18), (12, 2), (12, 4), (24, -5), (8, 13), (8, 14)] m tg F F67 := by rw [eF67]; exact Fq_p hM65 ho54.2 (fun _ => rfl) rfl
      have c70 : PSx m tg F67 := by rw [eF67]; exact PSx_u c64 ho54.2 (by omega)
      refine jx_ld (pc' := 31) (l' := L) (st' := [rv (b)]) rfl (jl_rvn gL_2) ?_
      refine cx_gr (pc' := 34) (c := 7) (q := 8) (v := F (b) (8 : Int)) rfl rfl (by decide) (by decide) rfl rfl ho54.1 ho54.2 ((show F67 (b) (8 : Int) = F61 (b) (8 : Int) from by rw [eF67]; exact uF_j (by decide)).trans ((show F61 (b) (8 : Int) = F57 (b) (8 : Int) from hM63 _ _ ho54.1 (own_z ho54.1) (by rw [ho54.2]; rfl)).trans ((show F57 (b) (8 : Int) = Fx (b) (8 : Int) from by rw [eF57]; exact uF_j (by decide)).trans (show Fx (b) (8 : Int) = F (b) (8 : Int) from hMx _ _ ho54.1 (own_z ho54.1) (by rw [ho54.2]; rfl))))) ?_
      have y71 : F (b) (8 : Int) = 0 ∨ (own m (F (b) (8 : Int)) ∧ tg (F (b) (8 : Int)) = 8) := by have z := HC_r (c := 7) (q := 8) hC68 ho54.1 ho54.2 (by decide) rfl; rw [show F67 (b) ((8 : Nat) : Int) = F (b) (8 : Int) from ((show F67 (b) (8 : Int) = F61 (b) (8 : Int) from by rw [eF67]; exact uF_j (by decide)).trans ((show F61 (b) (8 : Int) = F57 (b) (8 : Int) from hM63 _ _ ho54.1 (own_z ho54.1) (by rw [ho54.2]; rfl)).trans ((show F57 (b) (8 : Int) = Fx (b) (8 : Int) from by rw [eF57]; exact uF_j (by decide)).trans (show Fx (b) (8 : Int) = F (b) (8 : Int) from hMx _ _ ho54.1 (own_z ho54.1) (by rw [ho54.2]; rfl)))))] at z; exact z
      have z72 := mz_n hC c_NT sx_b (own_z ho54.1)
      refine jx_ld (pc' := 35) (l' := jSto1 L 2 (rv (F (b) (8 : Int)))) (st' := []) rfl (js_rvn (by decide)) ?_
      obtain ⟨L73, eL73⟩ : ∃ q : jL, q = jSto1 L 2 (rv (F (b) (8 : Int))) := ⟨_, rfl⟩
      rw [← eL73]
      have g74 : jGet L73 0 = some (rv (me)) := eL73 ▸ jg_nr (by decide) gL_0
      have g75 : jGet L73 1 = some (rv (p)) := eL73 ▸ jg_nr (by decide) gL_1
      have g76 : jGet L73 2 = some (rv (F (b) (8 : Int))) := eL73 ▸ jg_eq
      clear eL73
      refine jx_go (tg := 5) rfl rfl ?_
      exact ih _ (by omega) L73 F67 (F (b) (8 : Int)) rfl g74 g75 g76 hC68 hM69 y71 (SN_w (SN_n hC c_NT sx_b (own_z ho54.1)) (by omega)) (PSx_m c70 (by omega))
set_option maxRecDepth 20000 in
set_option maxHeartbeats 4000000 in
theorem k_LUses_branches {X : jX} {kk : Nat} (hE : 1 ≤ kk → UPx X (kk - 1)) {dd : Nat} {R : Nat → jC} {m : Nat} {tg ln : Int → Int} {F : Int → Int → Int} {me p : Int} (hd : 3 * kk + 15 ≤ dd) (hC : HC 0 m tg ln F) (o_me : own m me) (t_me : tg me = 12) (o_p : own m p) (t_p : tg p = 8) (c_PSx : PSx m tg F) (c_NT : NT m tg F) (n_p : SN m tg F p (kk)) : wk X dd 237 [rv me, rv p] (cV R m tg ln F) (fun o V' => ∃ (F' : Int → Int → Int), V' = cV R m tg ln F' ∧ o = .inl none ∧ HC 0 m tg ln F' ∧ Fq 0 [(7, 11), (8, 15), (8, 16), (8, 17), (8, 18), (12, 2), (12, 4), (24, -5), (8, 13), (8, 14)] m tg F F' ∧ (PSx m tg F') ∧ True) := by
  obtain ⟨d, rfl⟩ : ∃ d, dd = d + 1 := ⟨dd - 1, by omega⟩
  refine wk_of (e := jm237) rfl (by rw [jS_r, jS_r, jS_0]; exact Nat.le_of_ble_eq_true rfl) ?_
  rw [la_r, la_r, la_0]
  show wj X d jm237 (0, [(0, rv (me)), (1, rv (p))], [], cV R m tg ln F) _
  have hM0 : Fq 0 [(7, 11), (8, 15), (8, 16), (8, 17), (8, 18), (12, 2), (12, 4), (24, -5), (8, 13), (8, 14)] m tg F F := Fq_r
  obtain ⟨L0, eL0⟩ : ∃ q : jL, q = [(0, rv (me)), (1, rv (p))] := ⟨_, rfl⟩
  rw [← eL0]
  have g77 : jGet L0 0 = some (rv (me)) := eL0 ▸ (rfl : jGet [(0, rv (me)), (1, rv (p))] 0 = some (rv (me)))
  have g78 : jGet L0 1 = some (rv (p)) := eL0 ▸ (rfl : jGet [(0, rv (me)), (1, rv (p))] 1 = some (rv (p)))
  clear eL0
  have k79 := SN_p n_p (own_z o_p)
  have hE80 := hE (by omega)
  refine jx_ld (pc' := 1) (l' := L0) (st' := [rv (p)]) rfl (jl_rvn g78) ?_
  refine cx_gr (pc' := 4) (c := 7) (q := 4) (v := F (p) (4 : Int)) rfl rfl (by decide) (by decide) rfl rfl o_p t_p rfl ?_
  have y81 : F (p) (4 : Int) = 0 ∨ (own m (F (p) (4 : Int)) ∧ tg (F (p) (4 : Int)) = 8) := by have z := HC_r (c := 7) (q := 4) hC o_p t_p (by decide) rfl; rw [show F (p) ((4 : Nat) : Int) = F (p) (4 : Int) from rfl] at z; exact z
  refine jx_ld (pc' := 5) (l' := jSto1 L0 2 (rv (F (p) (4 : Int)))) (st' := []) rfl (js_rvn (by decide)) ?_
  obtain ⟨L82, eL82⟩ : ∃ q : jL, q = jSto1 L0 2 (rv (F (p) (4 : Int))) := ⟨_, rfl⟩
  rw [← eL82]
  have g83 : jGet L82 0 = some (rv (me)) := eL82 ▸ jg_nr (by decide) g77
  have g84 : jGet L82 1 = some (rv (p)) := eL82 ▸ jg_nr (by decide) g78
  have g85 : jGet L82 2 = some (rv (F (p) (4 : Int))) := eL82 ▸ jg_eq
  clear eL82
  exact k_LUses_branches_at_5 (X := X) (kk := kk) (hE := hE) (d := d) (R := R) (m := m) (tg := tg) (ln := ln) (F := F) (me := me) (p := p) (hd := hd) (hC := hC) (o_me := o_me) (t_me := t_me) (o_p := o_p) (t_p := t_p) (c_PSx := c_PSx) (c_NT := c_NT) (n_p := n_p) _ L82 F (F (p) (4 : Int)) rfl g83 g84 g85 hC hM0 y81 (SN_w (SN_c hC c_NT n_p (own_z o_p) (by omega)) (by omega)) (PSx_m c_PSx (by omega))
set_option maxRecDepth 20000 in
set_option maxHeartbeats 4000000 in
theorem k_LUses_process_at_163 {X : jX} {kk : Nat} (hE : 1 ≤ kk → UPx X (kk - 1)) {d : Nat} {R : Nat → jC} {m : Nat} {tg ln : Int → Int} {F : Int → Int → Int} {me p : Int} (hd : 3 * kk + 16 ≤ d + 1) (hC : HC 0 m tg ln F) (o_me : own m me) (t_me : tg me = 12) (y_p : p = 0 ∨ (own m p ∧ tg p = 8)) (c_PSx : PSx m tg F) (c_NT : NT m tg F) (n_p : SN m tg F p (kk)) : ∀ (mm : Nat) (L : jL) (Fx : Int → Int → Int) (ch : Int), (mz m ch).toNat = mm → jGet L 0 = some (rv (me)) → jGet L 1 = some (rv (p)) → jGet L 2 = some (rv ch) → HC 0 m tg ln Fx → Fq 0 [(7, 11), (8, 15), (8, 16), (8, 17), (8, 18), (12, 2), (12, 4), (24, -5), (8, 13), (8, 14)] m tg F Fx → (ch = 0 ∨ (own m ch ∧ tg ch = 8)) → (p ≠ 0) → (SN m tg F ch (kk - 1)) → (PSx m tg Fx) → wj X d jm228 (163, L, [], cV R m tg ln Fx) (fun o V' => ∃ (F' : Int → Int → Int), V' = cV R m tg ln F' ∧ o = .inl none ∧ HC 0 m tg ln F' ∧ Fq 0 [(7, 11), (8, 15), (8, 16), (8, 17), (8, 18), (12, 2), (12, 4), (24, -5), (8, 13), (8, 14)] m tg F F' ∧ (PSx m tg F') ∧ True) := by
  intro mm
  induction mm using Nat.strongRecOn with
  | ind mm ih =>
    intro L Fx ch hmm gL_0 gL_1 gL_2 hCx hMx yx_ch iv_0 sx_ch cx_PSx
    refine jx_ld (pc' := 164) (l' := L) (st' := [rv (ch)]) rfl (jl_rvn gL_2) ?_
    refine cx_nul (pc' := 167) (tg' := 180) rfl rfl rfl (fun h1 => ?_) (fun h1 => ?_)
    · have _q := h1
      refine jx_go (tg := 207) rfl rfl ?_
      refine jx_rt (v := none) rfl rfl rfl rfl rfl rfl ?_
      exact ⟨Fx, rfl, rfl, hCx, hMx, PSx_m cx_PSx (by omega), trivial⟩
    · have _q := h1
      have ho2 : own m (ch) ∧ tg (ch) = 8 := yx_ch.resolve_left h1
      have k3 := SN_p sx_ch h1
      have hE4 := hE (by omega)
      refine jx_ld (pc' := 168) (l' := L) (st' := [rv (me)]) rfl (jl_rvn gL_0) ?_
      refine jx_ld (pc' := 169) (l' := L) (st' := [rv (ch), rv (me)]) rfl (jl_rvn gL_2) ?_
      refine cx_vi (c := 11) (a := me) (st := []) (as := [rv (ch)]) rfl rfl rfl o_me t_me (by decide) rfl ⟨rfl, rfl, (Nat.le_of_ble_eq_true rfl)⟩ rfl (hE4 (dd := d) (R := R) (m := m) (tg := tg) (ln := ln) (F := Fx) (me := me) (p := ch) (hd := by omega) (hC := hCx) (o_me := o_me) (t_me := t_me) (y_p := (Or.inr ⟨ho2.1, ho2.2⟩)) (c_PSx := cx_PSx) (c_NT := NT_q hC c_NT hMx rfl) (n_p := (SN_q (SN_w (k' := kk - 1) sx_ch (by omega)) hMx rfl rfl))) (fun o V' hq => ?_)
      obtain ⟨F5, rfl, rfl, hC6, hM7, c8, -⟩ := hq
      have hM9 : Fq 0 [(7, 11), (8, 15), (8, 16), (8, 17), (8, 18), (12, 2), (12, 4), (24, -5), (8, 13), (8, 14)] m tg F F5 := Fq_t (ln := ln) (ln1 := ln) hMx Ex_r hM7 (by decide) (Or.inl rfl)
      refine Or.inl ⟨rfl, ?_⟩
      refine jx_ld (pc' := 173) (l' := L) (st' := [rv (ch)]) rfl (jl_rvn gL_2) ?_
      refine cx_gr (pc' := 176) (c := 7) (q := 8) (v := F (ch) (8 : Int)) rfl rfl (by decide) (by decide) rfl rfl ho2.1 ho2.2 ((show F5 (ch) (8 : Int) = Fx (ch) (8 : Int) from hM7 _ _ ho2.1 (own_z ho2.1) (by rw [ho2.2]; rfl)).trans (show Fx (ch) (8 : Int) = F (ch) (8 : Int) from hMx _ _ ho2.1 (own_z ho2.1) (by rw [ho2.2]; rfl))) ?_
      have y10 : F (ch) (8 : Int) = 0 ∨ (own m (F (ch) (8 : Int)) ∧ tg (F (ch) (8 : Int)) = 8) := by have z := HC_r (c := 7) (q := 8) hC6 ho2.1 ho2.2 (by decide) rfl; rw [show F5 (ch) ((8 : Nat) : Int) = F (ch) (8 : Int) from ((show F5 (ch) (8 : Int) = Fx (ch) (8 : Int) from hM7 _ _ ho2.1 (own_z ho2.1) (by rw [ho2.2]; rfl)).trans (show Fx (ch) (8 : Int) = F (ch) (8 : Int) from hMx _ _ ho2.1 (own_z ho2.1) (by rw [ho2.2]; rfl)))] at z; exact z
      have z11 := mz_n hC c_NT sx_ch (own_z ho2.1)
      refine jx_ld (pc' := 177) (l' := jSto1 L 2 (rv (F (ch) (8 : Int)))) (st' := []) rfl (js_rvn (by decide)) ?_
      obtain ⟨L12, eL12⟩ : ∃ q : jL, q = jSto1 L 2 (rv (F (ch) (8 : Int))) := ⟨_, rfl⟩
      rw [← eL12]
      have g13 : jGet L12 0 = some (rv (me)) := eL12 ▸ jg_nr (by decide) gL_0
      have g14 : jGet L12 1 = some (rv (p)) := eL12 ▸ jg_nr (by decide) gL_1
      have g15 : jGet L12 2 = some (rv (F (ch) (8 : Int))) := eL12 ▸ jg_eq
      clear eL12
      refine jx_go (tg := 163) rfl rfl ?_
      exact ih _ (by omega) L12 F5 (F (ch) (8 : Int)) rfl g13 g14 g15 hC6 hM9 y10 (by omega) (SN_w (SN_n hC c_NT sx_ch (own_z ho2.1)) (by omega)) (PSx_m c8 (by omega))
set_option maxRecDepth 20000 in
set_option maxHeartbeats 4000000 in
theorem k_LUses_process {X : jX} {kk : Nat} (hE : 1 ≤ kk → UPx X (kk - 1)) {dd : Nat} {R : Nat → jC} {m : Nat} {tg ln : Int → Int} {F : Int → Int → Int} {me p : Int} (hd : 3 * kk + 16 ≤ dd) (hC : HC 0 m tg ln F) (o_me : own m me) (t_me : tg me = 12) (y_p : p = 0 ∨ (own m p ∧ tg p = 8)) (c_PSx : PSx m tg F) (c_NT : NT m tg F) (n_p : SN m tg F p (kk)) : wk X dd 228 [rv me, rv p] (cV R m tg ln F) (fun o V' => ∃ (F' : Int → Int → Int), V' = cV R m tg ln F' ∧ o = .inl none ∧ HC 0 m tg ln F' ∧ Fq 0 [(7, 11), (8, 15), (8, 16), (8, 17), (8, 18), (12, 2), (12, 4), (24, -5), (8, 13), (8, 14)] m tg F F' ∧ (PSx m tg F') ∧ True) := by
  obtain ⟨d, rfl⟩ : ∃ d, dd = d + 1 := ⟨dd - 1, by omega⟩
  refine wk_of (e := jm228) rfl (by rw [jS_r, jS_r, jS_0]; exact Nat.le_of_ble_eq_true rfl) ?_
  rw [la_r, la_r, la_0]
  show wj X d jm228 (0, [(0, rv (me)), (1, rv (p))], [], cV R m tg ln F) _
  have hM0 : Fq 0 [(7, 11), (8, 15), (8, 16), (8, 17), (8, 18), (12, 2), (12, 4), (24, -5), (8, 13), (8, 14)] m tg F F := Fq_r
  obtain ⟨L0, eL0⟩ : ∃ q : jL, q = [(0, rv (me)), (1, rv (p))] := ⟨_, rfl⟩
  rw [← eL0]
  have g16 : jGet L0 0 = some (rv (me)) := eL0 ▸ (rfl : jGet [(0, rv (me)), (1, rv (p))] 0 = some (rv (me)))
  have g17 : jGet L0 1 = some (rv (p)) := eL0 ▸ (rfl : jGet [(0, rv (me)), (1, rv (p))] 1 = some (rv (p)))
  clear eL0
  refine jx_ld (pc' := 1) (l' := L0) (st' := [rv (p)]) rfl (jl_rvn g17) ?_
  refine cx_non (pc' := 4) (tg' := 5) rfl rfl rfl (fun h18 => ?_) (fun h18 => ?_)
  · have _q := h18
    have ho19 : own m (p) ∧ tg (p) = 8 := y_p.resolve_left h18
    have k20 := SN_p n_p h18
    have hE21 := hE (by omega)
    refine jx_ld (pc' := 6) (l' := L0) (st' := [rv (p)]) rfl (jl_rvn g17) ?_
    refine cx_gi (pc' := 9) (c := 7) (q := 0) (v := F (p) (0 : Int)) rfl rfl (by decide) (by decide) (Or.inl rfl) rfl ho19.1 ho19.2 rfl ?_
    have b22 : (-2147483648 : Int) ≤ F (p) (0 : Int) ∧ F (p) (0 : Int) ≤ 2147483647 := by have z := HC_i (c := 7) (q := 0) hC ho19.1 ho19.2 (by decide) rfl; rw [show F (p) ((0 : Nat) : Int) = F (p) (0 : Int) from rfl] at z; exact z
    by_cases h23 : F (p) (0 : Int) = 2
    · refine jx_swe (tg := 72) h23 rfl rfl rfl rfl ?_
      refine jx_ld (pc' := 73) (l' := L0) (st' := [rv (me)]) rfl (jl_rvn g16) ?_
      refine jx_ld (pc' := 74) (l' := L0) (st' := [rv (p), rv (me)]) rfl (jl_rvn g17) ?_
      refine cx_gr (pc' := 77) (c := 7) (q := 5) (v := F (p) (5 : Int)) rfl rfl (by decide) (by decide) rfl rfl ho19.1 ho19.2 rfl ?_
      have y24 : F (p) (5 : Int) = 0 ∨ (own m (F (p) (5 : Int)) ∧ tg (F (p) (5 : Int)) = 8) := by have z := HC_r (c := 7) (q := 5) hC ho19.1 ho19.2 (by decide) rfl; rw [show F (p) ((5 : Nat) : Int) = F (p) (5 : Int) from rfl] at z; exact z
      refine cx_vi (c := 11) (a := me) (st := []) (as := [rv (F (p) (5 : Int))]) rfl rfl rfl o_me t_me (by decide) rfl ⟨rfl, rfl, (Nat.le_of_ble_eq_true rfl)⟩ rfl (URx_all X ((kk) - 1) (dd := d) (R := R) (m := m) (tg := tg) (ln := ln) (F := F) (me := me) (e := F (p) (5 : Int)) (hd := by omega) (hC := hC) (o_me := o_me) (t_me := t_me) (y_e := y24) (c_PSx := c_PSx) (c_NT := c_NT) (n_e := (SN_w (SN_c hC c_NT n_p (own_z ho19.1) (by omega)) (by omega)))) (fun o V' hq => ?_)
      obtain ⟨F25, rfl, rfl, hC26, hM27, c28, -⟩ := hq
      have hM29 : Fq 0 [(7, 11), (8, 15), (8, 16), (8, 17), (8, 18), (12, 2), (12, 4), (24, -5), (8, 13), (8, 14)] m tg F F25 := Fq_t (ln := ln) (ln1 := ln) hM0 Ex_r hM27 (by decide) (Or.inl rfl)
      refine Or.inl ⟨rfl, ?_⟩
      refine jx_ld (pc' := 81) (l' := L0) (st' := [rv (me)]) rfl (jl_rvn g16) ?_
      refine jx_ld (pc' := 82) (l' := L0) (st' := [rv (p), rv (me)]) rfl (jl_rvn g17) ?_
      refine cx_gr (pc' := 85) (c := 7) (q := 4) (v := F (p) (4 : Int)) rfl rfl (by decide) (by decide) rfl rfl ho19.1 ho19.2 (show F25 (p) (4 : Int) = F (p) (4 : Int) from hM27 _ _ ho19.1 (own_z ho19.1) (by rw [ho19.2]; rfl)) ?_
      have y30 : F (p) (4 : Int) = 0 ∨ (own m (F (p) (4 : Int)) ∧ tg (F (p) (4 : Int)) = 8) := by have z := HC_r (c := 7) (q := 4) hC26 ho19.1 ho19.2 (by decide) rfl; rw [show F25 (p) ((4 : Nat) : Int) = F (p) (4 : Int) from (show F25 (p) (4 : Int) = F (p) (4 : Int) from hM27 _ _ ho19.1 (own_z ho19.1) (by rw [ho19.2]; rfl))] at z; exact z
      refine jx_ar (pc' := 86) (st' := [.int (i32 (2)), rv (F (p) (4 : Int)), rv (me)]) rfl rfl rfl rfl ?_
      refine cx_vi (c := 11) (a := me) (st := []) (as := [rv (F (p) (4 : Int)), .int (i32 (2))]) rfl rfl rfl o_me t_me (by decide) rfl ⟨rfl, rfl, (Nat.le_of_ble_eq_true rfl)⟩ rfl (k_LUses_use (dd := d) (R := R) (m := m) (tg := tg) (ln := ln) (F := F25) (kk := (kk) - 1) (hE := fun _ => URx_all X _) (me := me) (p := F (p) (4 : Int)) (fl := 2) (hd := by omega) (hC := hC26) (o_me := o_me) (t_me := t_me) (y_p := y30) (h_fl := by omega) (c_PSx := c28) (c_NT := NT_q hC c_NT hM29 rfl) (n_p := (SN_q (SN_w (SN_c hC c_NT n_p (own_z ho19.1) (by omega)) (by omega)) hM29 rfl rfl))) (fun o V' hq => ?_)
      obtain ⟨F31, rfl, rfl, hC32, hM33, c34, -⟩ := hq
      have hM35 : Fq 0 [(7, 11), (8, 15), (8, 16), (8, 17), (8, 18), (12, 2), (12, 4), (24, -5), (8, 13), (8, 14)] m tg F F31 := Fq_t (ln := ln) (ln1 := ln) hM29 Ex_r hM33 (by decide) (Or.inl rfl)
      refine Or.inl ⟨rfl, ?_⟩
      refine jx_go (tg := 207) rfl rfl ?_
      refine jx_rt (v := none) rfl rfl rfl rfl rfl rfl ?_
      exact ⟨F31, rfl, rfl, hC32, hM35, PSx_m c34 (by omega), trivial⟩
    by_cases h36 : F (p) (0 : Int) = 3
    · refine jx_swe (tg := 92) h36 rfl rfl rfl rfl ?_
      refine jx_ld (pc' := 93) (l' := L0) (st' := [rv (me)]) rfl (jl_rvn g16) ?_
      refine jx_ld (pc' := 94) (l' := L0) (st' := [rv (p), rv (me)]) rfl (jl_rvn g17) ?_
      refine cx_gr (pc' := 97) (c := 7) (q := 5) (v := F (p) (5 : Int)) rfl rfl (by decide) (by decide) rfl rfl ho19.1 ho19.2 rfl ?_
      have y37 : F (p) (5 : Int) = 0 ∨ (own m (F (p) (5 : Int)) ∧ tg (F (p) (5 : Int)) = 8) := by have z := HC_r (c := 7) (q := 5) hC ho19.1 ho19.2 (by decide) rfl; rw [show F (p) ((5 : Nat) : Int) = F (p) (5 : Int) from rfl] at z; exact z
      refine cx_vi (c := 11) (a := me) (st := []) (as := [rv (F (p) (5 : Int))]) rfl rfl rfl o_me t_me (by decide) rfl ⟨rfl, rfl, (Nat.le_of_ble_eq_true rfl)⟩ rfl (URx_all X ((kk) - 1) (dd := d) (R := R) (m := m) (tg := tg) (ln := ln) (F := F) (me := me) (e := F (p) (5 : Int)) (hd := by omega) (hC := hC) (o_me := o_me) (t_me := t_me) (y_e := y37) (c_PSx := c_PSx) (c_NT := c_NT) (n_e := (SN_w (SN_c hC c_NT n_p (own_z ho19.1) (by omega)) (by omega)))) (fun o V' hq => ?_)
      obtain ⟨F38, rfl, rfl, hC39, hM40, c41, -⟩ := hq
      have hM42 : Fq 0 [(7, 11), (8, 15), (8, 16), (8, 17), (8, 18), (12, 2), (12, 4), (24, -5), (8, 13), (8, 14)] m tg F F38 := Fq_t (ln := ln) (ln1 := ln) hM0 Ex_r hM40 (by decide) (Or.inl rfl)
      refine Or.inl ⟨rfl, ?_⟩
      refine jx_ld (pc' := 101) (l' := L0) (st' := [rv (me)]) rfl (jl_rvn g16) ?_
      refine jx_ld (pc' := 102) (l' := L0) (st' := [rv (p), rv (me)]) rfl (jl_rvn g17) ?_
      refine cx_gr (pc' := 105) (c := 7) (q := 4) (v := F (p) (4 : Int)) rfl rfl (by decide) (by decide) rfl rfl ho19.1 ho19.2 (show F38 (p) (4 : Int) = F (p) (4 : Int) from hM40 _ _ ho19.1 (own_z ho19.1) (by rw [ho19.2]; rfl)) ?_
      have y43 : F (p) (4 : Int) = 0 ∨ (own m (F (p) (4 : Int)) ∧ tg (F (p) (4 : Int)) = 8) := by have z := HC_r (c := 7) (q := 4) hC39 ho19.1 ho19.2 (by decide) rfl; rw [show F38 (p) ((4 : Nat) : Int) = F (p) (4 : Int) from (show F38 (p) (4 : Int) = F (p) (4 : Int) from hM40 _ _ ho19.1 (own_z ho19.1) (by rw [ho19.2]; rfl))] at z; exact z
      refine jx_ar (pc' := 106) (st' := [.int (i32 (4)), rv (F (p) (4 : Int)), rv (me)]) rfl rfl rfl rfl ?_
      refine cx_vi (c := 11) (a := me) (st := []) (as := [rv (F (p) (4 : Int)), .int (i32 (4))]) rfl rfl rfl o_me t_me (by decide) rfl ⟨rfl, rfl, (Nat.le_of_ble_eq_true rfl)⟩ rfl (k_LUses_use (dd := d) (R := R) (m := m) (tg := tg) (ln := ln) (F := F38) (kk := (kk) - 1) (hE := fun _ => URx_all X _) (me := me) (p := F (p) (4 : Int)) (fl := 4) (hd := by omega) (hC := hC39) (o_me := o_me) (t_me := t_me) (y_p := y43) (h_fl := by omega) (c_PSx := c41) (c_NT := NT_q hC c_NT hM42 rfl) (n_p := (SN_q (SN_w (SN_c hC c_NT n_p (own_z ho19.1) (by omega)) (by omega)) hM42 rfl rfl))) (fun o V' hq => ?_)
      obtain ⟨F44, rfl, rfl, hC45, hM46, c47, -⟩ := hq
      have hM48 : Fq 0 [(7, 11), (8, 15), (8, 16), (8, 17), (8, 18), (12, 2), (12, 4), (24, -5), (8, 13), (8, 14)] m tg F F44 := Fq_t (ln := ln) (ln1 := ln) hM42 Ex_r hM46 (by decide) (Or.inl rfl)
      refine Or.inl ⟨rfl, ?_⟩
      refine jx_go (tg := 207) rfl rfl ?_
      refine jx_rt (v := none) rfl rfl rfl rfl rfl rfl ?_
      exact ⟨F44, rfl, rfl, hC45, hM48, PSx_m c47 (by omega), trivial⟩
    by_cases h49 : F (p) (0 : Int) = 4
    · refine jx_swe (tg := 112) h49 rfl rfl rfl rfl ?_
      refine jx_ld (pc' := 113) (l' := L0) (st' := [rv (me)]) rfl (jl_rvn g16) ?_
      refine jx_ld (pc' := 114) (l' := L0) (st' := [rv (p), rv (me)]) rfl (jl_rvn g17) ?_
      refine cx_gr (pc' := 117) (c := 7) (q := 4) (v := F (p) (4 : Int)) rfl rfl (by decide) (by decide) rfl rfl ho19.1 ho19.2 rfl ?_
      have y50 : F (p) (4 : Int) = 0 ∨ (own m (F (p) (4 : Int)) ∧ tg (F (p) (4 : Int)) = 8) := by have z := HC_r (c := 7) (q := 4) hC ho19.1 ho19.2 (by decide) rfl; rw [show F (p) ((4 : Nat) : Int) = F (p) (4 : Int) from rfl] at z; exact z
      refine jx_ar (pc' := 119) (st' := [.int (i32 (8)), rv (F (p) (4 : Int)), rv (me)]) rfl rfl rfl rfl ?_
      refine cx_vi (c := 11) (a := me) (st := []) (as := [rv (F (p) (4 : Int)), .int (i32 (8))]) rfl rfl rfl o_me t_me (by decide) rfl ⟨rfl, rfl, (Nat.le_of_ble_eq_true rfl)⟩ rfl (k_LUses_use (dd := d) (R := R) (m := m) (tg := tg) (ln := ln) (F := F) (kk := (kk) - 1) (hE := fun _ => URx_all X _) (me := me) (p := F (p) (4 : Int)) (fl := 8) (hd := by omega) (hC := hC) (o_me := o_me) (t_me := t_me) (y_p := y50) (h_fl := by omega) (c_PSx := c_PSx) (c_NT := c_NT) (n_p := (SN_w (SN_c hC c_NT n_p (own_z ho19.1) (by omega)) (by omega)))) (fun o V' hq => ?_)
      obtain ⟨F51, rfl, rfl, hC52, hM53, c54, -⟩ := hq
      have hM55 : Fq 0 [(7, 11), (8, 15), (8, 16), (8, 17), (8, 18), (12, 2), (12, 4), (24, -5), (8, 13), (8, 14)] m tg F F51 := Fq_t (ln := ln) (ln1 := ln) hM0 Ex_r hM53 (by decide) (Or.inl rfl)
      refine Or.inl ⟨rfl, ?_⟩
      refine jx_ld (pc' := 123) (l' := L0) (st' := [rv (me)]) rfl (jl_rvn g16) ?_
      refine jx_ld (pc' := 124) (l' := L0) (st' := [rv (p), rv (me)]) rfl (jl_rvn g17) ?_
      refine cx_gr (pc' := 127) (c := 7) (q := 5) (v := F (p) (5 : Int)) rfl rfl (by decide) (by decide) rfl rfl ho19.1 ho19.2 (show F51 (p) (5 : Int) = F (p) (5 : Int) from hM53 _ _ ho19.1 (own_z ho19.1) (by rw [ho19.2]; rfl)) ?_
      have y56 : F (p) (5 : Int) = 0 ∨ (own m (F (p) (5 : Int)) ∧ tg (F (p) (5 : Int)) = 8) := by have z := HC_r (c := 7) (q := 5) hC52 ho19.1 ho19.2 (by decide) rfl; rw [show F51 (p) ((5 : Nat) : Int) = F (p) (5 : Int) from (show F51 (p) (5 : Int) = F (p) (5 : Int) from hM53 _ _ ho19.1 (own_z ho19.1) (by rw [ho19.2]; rfl))] at z; exact z
      refine jx_ar (pc' := 128) (st' := [.int (i32 (2)), rv (F (p) (5 : Int)), rv (me)]) rfl rfl rfl rfl ?_
      refine cx_vi (c := 11) (a := me) (st := []) (as := [rv (F (p) (5 : Int)), .int (i32 (2))]) rfl rfl rfl o_me t_me (by decide) rfl ⟨rfl, rfl, (Nat.le_of_ble_eq_true rfl)⟩ rfl (k_LUses_use (dd := d) (R := R) (m := m) (tg := tg) (ln := ln) (F := F51) (kk := (kk) - 1) (hE := fun _ => URx_all X _) (me := me) (p := F (p) (5 : Int)) (fl := 2) (hd := by omega) (hC := hC52) (o_me := o_me) (t_me := t_me) (y_p := y56) (h_fl := by omega) (c_PSx := c54) (c_NT := NT_q hC c_NT hM55 rfl) (n_p := (SN_q (SN_w (SN_c hC c_NT n_p (own_z ho19.1) (by omega)) (by omega)) hM55 rfl rfl))) (fun o V' hq => ?_)
      obtain ⟨F57, rfl, rfl, hC58, hM59, c60, -⟩ := hq
      have hM61 : Fq 0 [(7, 11), (8, 15), (8, 16), (8, 17), (8, 18), (12, 2), (12, 4), (24, -5), (8, 13), (8, 14)] m tg F F57 := Fq_t (ln := ln) (ln1 := ln) hM55 Ex_r hM59 (by decide) (Or.inl rfl)
      refine Or.inl ⟨rfl, ?_⟩
      refine jx_go (tg := 207) rfl rfl ?_
      refine jx_rt (v := none) rfl rfl rfl rfl rfl rfl ?_
      exact ⟨F57, rfl, rfl, hC58, hM61, PSx_m c60 (by omega), trivial⟩
    by_cases h62 : F (p) (0 : Int) = 5
    · refine jx_swe (tg := 134) h62 rfl rfl rfl rfl ?_
      refine jx_ld (pc' := 135) (l' := L0) (st' := [rv (me)]) rfl (jl_rvn g16) ?_
      refine jx_ld (pc' := 136) (l' := L0) (st' := [rv (p), rv (me)]) rfl (jl_rvn g17) ?_
      refine cx_vi (c := 11) (a := me) (st := []) (as := [rv (p)]) rfl rfl rfl o_me t_me (by decide) rfl ⟨rfl, rfl, (Nat.le_of_ble_eq_true rfl)⟩ rfl (k_LUses_arguments (dd := d) (R := R) (m := m) (tg := tg) (ln := ln) (F := F) (kk := kk) (me := me) (cl := p) (hd := by omega) (hC := hC) (o_me := o_me) (t_me := t_me) (o_cl := ho19.1) (t_cl := ho19.2) (p_0 := by omega) (c_PSx := c_PSx) (c_NT := c_NT) (n_cl := (SN_w n_p (by omega)))) (fun o V' hq => ?_)
      obtain ⟨F63, rfl, rfl, hC64, hM65, c66, -⟩ := hq
      have hM67 : Fq 0 [(7, 11), (8, 15), (8, 16), (8, 17), (8, 18), (12, 2), (12, 4), (24, -5), (8, 13), (8, 14)] m tg F F63 := Fq_t (ln := ln) (ln1 := ln) hM0 Ex_r hM65 (by decide) (Or.inl rfl)
      refine Or.inl ⟨rfl, ?_⟩
      refine jx_go (tg := 207) rfl rfl ?_
      refine jx_rt (v := none) rfl rfl rfl rfl rfl rfl ?_
      exact ⟨F63, rfl, rfl, hC64, hM67, PSx_m c66 (by omega), trivial⟩
    by_cases h68 : F (p) (0 : Int) = 6
    · refine jx_swe (tg := 158) h68 rfl rfl rfl rfl ?_
      refine jx_ld (pc' := 159) (l' := L0) (st' := [rv (p)]) rfl (jl_rvn g17) ?_
      refine cx_gr (pc' := 162) (c := 7) (q := 4) (v := F (p) (4 : Int)) rfl rfl (by decide) (by decide) rfl rfl ho19.1 ho19.2 rfl ?_
      have y69 : F (p) (4 : Int) = 0 ∨ (own m (F (p) (4 : Int)) ∧ tg (F (p) (4 : Int)) = 8) := by have z := HC_r (c := 7) (q := 4) hC ho19.1 ho19.2 (by decide) rfl; rw [show F (p) ((4 : Nat) : Int) = F (p) (4 : Int) from rfl] at z; exact z
      refine jx_ld (pc' := 163) (l' := jSto1 L0 2 (rv (F (p) (4 : Int)))) (st' := []) rfl (js_rvn (by decide)) ?_
      obtain ⟨L70, eL70⟩ : ∃ q : jL, q = jSto1 L0 2 (rv (F (p) (4 : Int))) := ⟨_, rfl⟩
      rw [← eL70]
      have g71 : jGet L70 0 = some (rv (me)) := eL70 ▸ jg_nr (by decide) g16
      have g72 : jGet L70 1 = some (rv (p)) := eL70 ▸ jg_nr (by decide) g17
      have g73 : jGet L70 2 = some (rv (F (p) (4 : Int))) := eL70 ▸ jg_eq
      clear eL70
      exact k_LUses_process_at_163 (X := X) (kk := kk) (hE := hE) (d := d) (R := R) (m := m) (tg := tg) (ln := ln) (F := F) (me := me) (p := p) (hd := hd) (hC := hC) (o_me := o_me) (t_me := t_me) (y_p := y_p) (c_PSx := c_PSx) (c_NT := c_NT) (n_p := n_p) _ L70 F (F (p) (4 : Int)) rfl g71 g72 g73 hC hM0 y69 (by omega) (SN_w (SN_c hC c_NT n_p (own_z ho19.1) (by omega)) (by omega)) (PSx_m c_PSx (by omega))
    by_cases h74 : F (p) (0 : Int) = 7
    · refine jx_swe (tg := 183) h74 rfl rfl rfl rfl ?_
      refine jx_ld (pc' := 184) (l' := L0) (st' := [rv (me)]) rfl (jl_rvn g16) ?_
      refine jx_ld (pc' := 185) (l' := L0) (st' := [rv (p), rv (me)]) rfl (jl_rvn g17) ?_
      refine cx_gr (pc' := 188) (c := 7) (q := 4) (v := F (p) (4 : Int)) rfl rfl (by decide) (by decide) rfl rfl ho19.1 ho19.2 rfl ?_
      have y75 : F (p) (4 : Int) = 0 ∨ (own m (F (p) (4 : Int)) ∧ tg (F (p) (4 : Int)) = 8) := by have z := HC_r (c := 7) (q := 4) hC ho19.1 ho19.2 (by decide) rfl; rw [show F (p) ((4 : Nat) : Int) = F (p) (4 : Int) from rfl] at z; exact z
      refine cx_vi (c := 11) (a := me) (st := []) (as := [rv (F (p) (4 : Int))]) rfl rfl rfl o_me t_me (by decide) rfl ⟨rfl, rfl, (Nat.le_of_ble_eq_true rfl)⟩ rfl (URx_all X ((kk) - 1) (dd := d) (R := R) (m := m) (tg := tg) (ln := ln) (F := F) (me := me) (e := F (p) (4 : Int)) (hd := by omega) (hC := hC) (o_me := o_me) (t_me := t_me) (y_e := y75) (c_PSx := c_PSx) (c_NT := c_NT) (n_e := (SN_w (SN_c hC c_NT n_p (own_z ho19.1) (by omega)) (by omega)))) (fun o V' hq => ?_)
      obtain ⟨F76, rfl, rfl, hC77, hM78, c79, -⟩ := hq
      have hM80 : Fq 0 [(7, 11), (8, 15), (8, 16), (8, 17), (8, 18), (12, 2), (12, 4), (24, -5), (8, 13), (8, 14)] m tg F F76 := Fq_t (ln := ln) (ln1 := ln) hM0 Ex_r hM78 (by decide) (Or.inl rfl)
      refine Or.inl ⟨rfl, ?_⟩
      refine jx_ld (pc' := 192) (l' := L0) (st' := [rv (me)]) rfl (jl_rvn g16) ?_
      refine jx_ld (pc' := 193) (l' := L0) (st' := [rv (p), rv (me)]) rfl (jl_rvn g17) ?_
      refine cx_gr (pc' := 196) (c := 7) (q := 5) (v := F (p) (5 : Int)) rfl rfl (by decide) (by decide) rfl rfl ho19.1 ho19.2 (show F76 (p) (5 : Int) = F (p) (5 : Int) from hM78 _ _ ho19.1 (own_z ho19.1) (by rw [ho19.2]; rfl)) ?_
      have y81 : F (p) (5 : Int) = 0 ∨ (own m (F (p) (5 : Int)) ∧ tg (F (p) (5 : Int)) = 8) := by have z := HC_r (c := 7) (q := 5) hC77 ho19.1 ho19.2 (by decide) rfl; rw [show F76 (p) ((5 : Nat) : Int) = F (p) (5 : Int) from (show F76 (p) (5 : Int) = F (p) (5 : Int) from hM78 _ _ ho19.1 (own_z ho19.1) (by rw [ho19.2]; rfl))] at z; exact z
      refine cx_vi (c := 11) (a := me) (st := []) (as := [rv (F (p) (5 : Int))]) rfl rfl rfl o_me t_me (by decide) rfl ⟨rfl, rfl, (Nat.le_of_ble_eq_true rfl)⟩ rfl (URx_all X ((kk) - 1) (dd := d) (R := R) (m := m) (tg := tg) (ln := ln) (F := F76) (me := me) (e := F (p) (5 : Int)) (hd := by omega) (hC := hC77) (o_me := o_me) (t_me := t_me) (y_e := y81) (c_PSx := c79) (c_NT := NT_q hC c_NT hM80 rfl) (n_e := (SN_q (SN_w (SN_c hC c_NT n_p (own_z ho19.1) (by omega)) (by omega)) hM80 rfl rfl))) (fun o V' hq => ?_)
      obtain ⟨F82, rfl, rfl, hC83, hM84, c85, -⟩ := hq
      have hM86 : Fq 0 [(7, 11), (8, 15), (8, 16), (8, 17), (8, 18), (12, 2), (12, 4), (24, -5), (8, 13), (8, 14)] m tg F F82 := Fq_t (ln := ln) (ln1 := ln) hM80 Ex_r hM84 (by decide) (Or.inl rfl)
      refine Or.inl ⟨rfl, ?_⟩
      refine jx_ld (pc' := 200) (l' := L0) (st' := [rv (me)]) rfl (jl_rvn g16) ?_
      refine jx_ld (pc' := 201) (l' := L0) (st' := [rv (p), rv (me)]) rfl (jl_rvn g17) ?_
      refine cx_gr (pc' := 204) (c := 7) (q := 7) (v := F (p) (7 : Int)) rfl rfl (by decide) (by decide) rfl rfl ho19.1 ho19.2 ((show F82 (p) (7 : Int) = F76 (p) (7 : Int) from hM84 _ _ ho19.1 (own_z ho19.1) (by rw [ho19.2]; rfl)).trans (show F76 (p) (7 : Int) = F (p) (7 : Int) from hM78 _ _ ho19.1 (own_z ho19.1) (by rw [ho19.2]; rfl))) ?_
      have y87 : F (p) (7 : Int) = 0 ∨ (own m (F (p) (7 : Int)) ∧ tg (F (p) (7 : Int)) = 8) := by have z := HC_r (c := 7) (q := 7) hC83 ho19.1 ho19.2 (by decide) rfl; rw [show F82 (p) ((7 : Nat) : Int) = F (p) (7 : Int) from ((show F82 (p) (7 : Int) = F76 (p) (7 : Int) from hM84 _ _ ho19.1 (own_z ho19.1) (by rw [ho19.2]; rfl)).trans (show F76 (p) (7 : Int) = F (p) (7 : Int) from hM78 _ _ ho19.1 (own_z ho19.1) (by rw [ho19.2]; rfl)))] at z; exact z
      refine cx_vi (c := 11) (a := me) (st := []) (as := [rv (F (p) (7 : Int))]) rfl rfl rfl o_me t_me (by decide) rfl ⟨rfl, rfl, (Nat.le_of_ble_eq_true rfl)⟩ rfl (hE21 (dd := d) (R := R) (m := m) (tg := tg) (ln := ln) (F := F82) (me := me) (p := F (p) (7 : Int)) (hd := by omega) (hC := hC83) (o_me := o_me) (t_me := t_me) (y_p := y87) (c_PSx := c85) (c_NT := NT_q hC c_NT hM86 rfl) (n_p := (SN_q (SN_w (k' := kk - 1) (SN_c hC c_NT n_p (own_z ho19.1) (by omega)) (by omega)) hM86 rfl rfl))) (fun o V' hq => ?_)
      obtain ⟨F88, rfl, rfl, hC89, hM90, c91, -⟩ := hq
      have hM92 : Fq 0 [(7, 11), (8, 15), (8, 16), (8, 17), (8, 18), (12, 2), (12, 4), (24, -5), (8, 13), (8, 14)] m tg F F88 := Fq_t (ln := ln) (ln1 := ln) hM86 Ex_r hM90 (by decide) (Or.inl rfl)
      refine Or.inl ⟨rfl, ?_⟩
      refine jx_rt (v := none) rfl rfl rfl rfl rfl rfl ?_
      exact ⟨F88, rfl, rfl, hC89, hM92, PSx_m c91 (by omega), trivial⟩
    by_cases h93 : F (p) (0 : Int) = 8
    · refine jx_swe (tg := 142) h93 rfl rfl rfl rfl ?_
      refine jx_ld (pc' := 143) (l' := L0) (st' := [rv (me)]) rfl (jl_rvn g16) ?_
      refine jx_ld (pc' := 144) (l' := L0) (st' := [rv (p), rv (me)]) rfl (jl_rvn g17) ?_
      refine cx_vi (c := 11) (a := me) (st := []) (as := [rv (p)]) rfl rfl rfl o_me t_me (by decide) rfl ⟨rfl, rfl, (Nat.le_of_ble_eq_true rfl)⟩ rfl (k_LUses_branches (dd := d) (R := R) (m := m) (tg := tg) (ln := ln) (F := F) (kk := kk) (hE := hE) (me := me) (p := p) (hd := by omega) (hC := hC) (o_me := o_me) (t_me := t_me) (o_p := ho19.1) (t_p := ho19.2) (c_PSx := c_PSx) (c_NT := c_NT) (n_p := (SN_w n_p (by omega)))) (fun o V' hq => ?_)
      obtain ⟨F94, rfl, rfl, hC95, hM96, c97, -⟩ := hq
      have hM98 : Fq 0 [(7, 11), (8, 15), (8, 16), (8, 17), (8, 18), (12, 2), (12, 4), (24, -5), (8, 13), (8, 14)] m tg F F94 := Fq_t (ln := ln) (ln1 := ln) hM0 Ex_r hM96 (by decide) (Or.inl rfl)
      refine Or.inl ⟨rfl, ?_⟩
      refine jx_go (tg := 207) rfl rfl ?_
      refine jx_rt (v := none) rfl rfl rfl rfl rfl rfl ?_
      exact ⟨F94, rfl, rfl, hC95, hM98, PSx_m c97 (by omega), trivial⟩
    by_cases h99 : F (p) (0 : Int) = 9
    · refine jx_swe (tg := 142) h99 rfl rfl rfl rfl ?_
      refine jx_ld (pc' := 143) (l' := L0) (st' := [rv (me)]) rfl (jl_rvn g16) ?_
      refine jx_ld (pc' := 144) (l' := L0) (st' := [rv (p), rv (me)]) rfl (jl_rvn g17) ?_
      refine cx_vi (c := 11) (a := me) (st := []) (as := [rv (p)]) rfl rfl rfl o_me t_me (by decide) rfl ⟨rfl, rfl, (Nat.le_of_ble_eq_true rfl)⟩ rfl (k_LUses_branches (dd := d) (R := R) (m := m) (tg := tg) (ln := ln) (F := F) (kk := kk) (hE := hE) (me := me) (p := p) (hd := by omega) (hC := hC) (o_me := o_me) (t_me := t_me) (o_p := ho19.1) (t_p := ho19.2) (c_PSx := c_PSx) (c_NT := c_NT) (n_p := (SN_w n_p (by omega)))) (fun o V' hq => ?_)
      obtain ⟨F100, rfl, rfl, hC101, hM102, c103, -⟩ := hq
      have hM104 : Fq 0 [(7, 11), (8, 15), (8, 16), (8, 17), (8, 18), (12, 2), (12, 4), (24, -5), (8, 13), (8, 14)] m tg F F100 := Fq_t (ln := ln) (ln1 := ln) hM0 Ex_r hM102 (by decide) (Or.inl rfl)
      refine Or.inl ⟨rfl, ?_⟩
      refine jx_go (tg := 207) rfl rfl ?_
      refine jx_rt (v := none) rfl rfl rfl rfl rfl rfl ?_
      exact ⟨F100, rfl, rfl, hC101, hM104, PSx_m c103 (by omega), trivial⟩
    by_cases h105 : F (p) (0 : Int) = 10
    · refine jx_swe (tg := 142) h105 rfl rfl rfl rfl ?_
      refine jx_ld (pc' := 143) (l' := L0) (st' := [rv (me)]) rfl (jl_rvn g16) ?_
      refine jx_ld (pc' := 144) (l' := L0) (st' := [rv (p), rv (me)]) rfl (jl_rvn g17) ?_
      refine cx_vi (c := 11) (a := me) (st := []) (as := [rv (p)]) rfl rfl rfl o_me t_me (by decide) rfl ⟨rfl, rfl, (Nat.le_of_ble_eq_true rfl)⟩ rfl (k_LUses_branches (dd := d) (R := R) (m := m) (tg := tg) (ln := ln) (F := F) (kk := kk) (hE := hE) (me := me) (p := p) (hd := by omega) (hC := hC) (o_me := o_me) (t_me := t_me) (o_p := ho19.1) (t_p := ho19.2) (c_PSx := c_PSx) (c_NT := c_NT) (n_p := (SN_w n_p (by omega)))) (fun o V' hq => ?_)
      obtain ⟨F106, rfl, rfl, hC107, hM108, c109, -⟩ := hq
      have hM110 : Fq 0 [(7, 11), (8, 15), (8, 16), (8, 17), (8, 18), (12, 2), (12, 4), (24, -5), (8, 13), (8, 14)] m tg F F106 := Fq_t (ln := ln) (ln1 := ln) hM0 Ex_r hM108 (by decide) (Or.inl rfl)
      refine Or.inl ⟨rfl, ?_⟩
      refine jx_go (tg := 207) rfl rfl ?_
      refine jx_rt (v := none) rfl rfl rfl rfl rfl rfl ?_
      exact ⟨F106, rfl, rfl, hC107, hM110, PSx_m c109 (by omega), trivial⟩
    by_cases h111 : F (p) (0 : Int) = 11
    · refine jx_swe (tg := 150) h111 rfl rfl rfl rfl ?_
      refine jx_ld (pc' := 151) (l' := L0) (st' := [rv (me)]) rfl (jl_rvn g16) ?_
      refine jx_ld (pc' := 152) (l' := L0) (st' := [rv (p), rv (me)]) rfl (jl_rvn g17) ?_
      refine cx_vi (c := 11) (a := me) (st := []) (as := [rv (p)]) rfl rfl rfl o_me t_me (by decide) rfl ⟨rfl, rfl, (Nat.le_of_ble_eq_true rfl)⟩ rfl (k_LUses_choices (dd := d) (R := R) (m := m) (tg := tg) (ln := ln) (F := F) (kk := kk) (hE := hE) (me := me) (p := p) (hd := by omega) (hC := hC) (o_me := o_me) (t_me := t_me) (o_p := ho19.1) (t_p := ho19.2) (c_PSx := c_PSx) (c_NT := c_NT) (n_p := (SN_w n_p (by omega)))) (fun o V' hq => ?_)
      obtain ⟨F112, rfl, rfl, hC113, hM114, c115, -⟩ := hq
      have hM116 : Fq 0 [(7, 11), (8, 15), (8, 16), (8, 17), (8, 18), (12, 2), (12, 4), (24, -5), (8, 13), (8, 14)] m tg F F112 := Fq_t (ln := ln) (ln1 := ln) hM0 Ex_r hM114 (by decide) (Or.inl rfl)
      refine Or.inl ⟨rfl, ?_⟩
      refine jx_go (tg := 207) rfl rfl ?_
      refine jx_rt (v := none) rfl rfl rfl rfl rfl rfl ?_
      exact ⟨F112, rfl, rfl, hC113, hM116, PSx_m c115 (by omega), trivial⟩
    by_cases h117 : F (p) (0 : Int) = 12
    · refine jx_swe (tg := 183) h117 rfl rfl rfl rfl ?_
      refine jx_ld (pc' := 184) (l' := L0) (st' := [rv (me)]) rfl (jl_rvn g16) ?_
      refine jx_ld (pc' := 185) (l' := L0) (st' := [rv (p), rv (me)]) rfl (jl_rvn g17) ?_
      refine cx_gr (pc' := 188) (c := 7) (q := 4) (v := F (p) (4 : Int)) rfl rfl (by decide) (by decide) rfl rfl ho19.1 ho19.2 rfl ?_
      have y118 : F (p) (4 : Int) = 0 ∨ (own m (F (p) (4 : Int)) ∧ tg (F (p) (4 : Int)) = 8) := by have z := HC_r (c := 7) (q := 4) hC ho19.1 ho19.2 (by decide) rfl; rw [show F (p) ((4 : Nat) : Int) = F (p) (4 : Int) from rfl] at z; exact z
      refine cx_vi (c := 11) (a := me) (st := []) (as := [rv (F (p) (4 : Int))]) rfl rfl rfl o_me t_me (by decide) rfl ⟨rfl, rfl, (Nat.le_of_ble_eq_true rfl)⟩ rfl (URx_all X ((kk) - 1) (dd := d) (R := R) (m := m) (tg := tg) (ln := ln) (F := F) (me := me) (e := F (p) (4 : Int)) (hd := by omega) (hC := hC) (o_me := o_me) (t_me := t_me) (y_e := y118) (c_PSx := c_PSx) (c_NT := c_NT) (n_e := (SN_w (SN_c hC c_NT n_p (own_z ho19.1) (by omega)) (by omega)))) (fun o V' hq => ?_)
      obtain ⟨F119, rfl, rfl, hC120, hM121, c122, -⟩ := hq
      have hM123 : Fq 0 [(7, 11), (8, 15), (8, 16), (8, 17), (8, 18), (12, 2), (12, 4), (24, -5), (8, 13), (8, 14)] m tg F F119 := Fq_t (ln := ln) (ln1 := ln) hM0 Ex_r hM121 (by decide) (Or.inl rfl)
      refine Or.inl ⟨rfl, ?_⟩
      refine jx_ld (pc' := 192) (l' := L0) (st' := [rv (me)]) rfl (jl_rvn g16) ?_
      refine jx_ld (pc' := 193) (l' := L0) (st' := [rv (p), rv (me)]) rfl (jl_rvn g17) ?_
      refine cx_gr (pc' := 196) (c := 7) (q := 5) (v := F (p) (5 : Int)) rfl rfl (by decide) (by decide) rfl rfl ho19.1 ho19.2 (show F119 (p) (5 : Int) = F (p) (5 : Int) from hM121 _ _ ho19.1 (own_z ho19.1) (by rw [ho19.2]; rfl)) ?_
      have y124 : F (p) (5 : Int) = 0 ∨ (own m (F (p) (5 : Int)) ∧ tg (F (p) (5 : Int)) = 8) := by have z := HC_r (c := 7) (q := 5) hC120 ho19.1 ho19.2 (by decide) rfl; rw [show F119 (p) ((5 : Nat) : Int) = F (p) (5 : Int) from (show F119 (p) (5 : Int) = F (p) (5 : Int) from hM121 _ _ ho19.1 (own_z ho19.1) (by rw [ho19.2]; rfl))] at z; exact z
      refine cx_vi (c := 11) (a := me) (st := []) (as := [rv (F (p) (5 : Int))]) rfl rfl rfl o_me t_me (by decide) rfl ⟨rfl, rfl, (Nat.le_of_ble_eq_true rfl)⟩ rfl (URx_all X ((kk) - 1) (dd := d) (R := R) (m := m) (tg := tg) (ln := ln) (F := F119) (me := me) (e := F (p) (5 : Int)) (hd := by omega) (hC := hC120) (o_me := o_me) (t_me := t_me) (y_e := y124) (c_PSx := c122) (c_NT := NT_q hC c_NT hM123 rfl) (n_e := (SN_q (SN_w (SN_c hC c_NT n_p (own_z ho19.1) (by omega)) (by omega)) hM123 rfl rfl))) (fun o V' hq => ?_)
      obtain ⟨F125, rfl, rfl, hC126, hM127, c128, -⟩ := hq
      have hM129 : Fq 0 [(7, 11), (8, 15), (8, 16), (8, 17), (8, 18), (12, 2), (12, 4), (24, -5), (8, 13), (8, 14)] m tg F F125 := Fq_t (ln := ln) (ln1 := ln) hM123 Ex_r hM127 (by decide) (Or.inl rfl)
      refine Or.inl ⟨rfl, ?_⟩
      refine jx_ld (pc' := 200) (l' := L0) (st' := [rv (me)]) rfl (jl_rvn g16) ?_
      refine jx_ld (pc' := 201) (l' := L0) (st' := [rv (p), rv (me)]) rfl (jl_rvn g17) ?_
      refine cx_gr (pc' := 204) (c := 7) (q := 7) (v := F (p) (7 : Int)) rfl rfl (by decide) (by decide) rfl rfl ho19.1 ho19.2 ((show F125 (p) (7 : Int) = F119 (p) (7 : Int) from hM127 _ _ ho19.1 (own_z ho19.1) (by rw [ho19.2]; rfl)).trans (show F119 (p) (7 : Int) = F (p) (7 : Int) from hM121 _ _ ho19.1 (own_z ho19.1) (by rw [ho19.2]; rfl))) ?_
      have y130 : F (p) (7 : Int) = 0 ∨ (own m (F (p) (7 : Int)) ∧ tg (F (p) (7 : Int)) = 8) := by have z := HC_r (c := 7) (q := 7) hC126 ho19.1 ho19.2 (by decide) rfl; rw [show F125 (p) ((7 : Nat) : Int) = F (p) (7 : Int) from ((show F125 (p) (7 : Int) = F119 (p) (7 : Int) from hM127 _ _ ho19.1 (own_z ho19.1) (by rw [ho19.2]; rfl)).trans (show F119 (p) (7 : Int) = F (p) (7 : Int) from hM121 _ _ ho19.1 (own_z ho19.1) (by rw [ho19.2]; rfl)))] at z; exact z
      refine cx_vi (c := 11) (a := me) (st := []) (as := [rv (F (p) (7 : Int))]) rfl rfl rfl o_me t_me (by decide) rfl ⟨rfl, rfl, (Nat.le_of_ble_eq_true rfl)⟩ rfl (hE21 (dd := d) (R := R) (m := m) (tg := tg) (ln := ln) (F := F125) (me := me) (p := F (p) (7 : Int)) (hd := by omega) (hC := hC126) (o_me := o_me) (t_me := t_me) (y_p := y130) (c_PSx := c128) (c_NT := NT_q hC c_NT hM129 rfl) (n_p := (SN_q (SN_w (k' := kk - 1) (SN_c hC c_NT n_p (own_z ho19.1) (by omega)) (by omega)) hM129 rfl rfl))) (fun o V' hq => ?_)
      obtain ⟨F131, rfl, rfl, hC132, hM133, c134, -⟩ := hq
      have hM135 : Fq 0 [(7, 11), (8, 15), (8, 16), (8, 17), (8, 18), (12, 2), (12, 4), (24, -5), (8, 13), (8, 14)] m tg F F131 := Fq_t (ln := ln) (ln1 := ln) hM129 Ex_r hM133 (by decide) (Or.inl rfl)
      refine Or.inl ⟨rfl, ?_⟩
      refine jx_rt (v := none) rfl rfl rfl rfl rfl rfl ?_
      exact ⟨F131, rfl, rfl, hC132, hM135, PSx_m c134 (by omega), trivial⟩
    by_cases h136 : F (p) (0 : Int) = 13
    · refine jx_swe (tg := 150) h136 rfl rfl rfl rfl ?_
      refine jx_ld (pc' := 151) (l' := L0) (st' := [rv (me)]) rfl (jl_rvn g16) ?_
      refine jx_ld (pc' := 152) (l' := L0) (st' := [rv (p), rv (me)]) rfl (jl_rvn g17) ?_
      refine cx_vi (c := 11) (a := me) (st := []) (as := [rv (p)]) rfl rfl rfl o_me t_me (by decide) rfl ⟨rfl, rfl, (Nat.le_of_ble_eq_true rfl)⟩ rfl (k_LUses_choices (dd := d) (R := R) (m := m) (tg := tg) (ln := ln) (F := F) (kk := kk) (hE := hE) (me := me) (p := p) (hd := by omega) (hC := hC) (o_me := o_me) (t_me := t_me) (o_p := ho19.1) (t_p := ho19.2) (c_PSx := c_PSx) (c_NT := c_NT) (n_p := (SN_w n_p (by omega)))) (fun o V' hq => ?_)
      obtain ⟨F137, rfl, rfl, hC138, hM139, c140, -⟩ := hq
      have hM141 : Fq 0 [(7, 11), (8, 15), (8, 16), (8, 17), (8, 18), (12, 2), (12, 4), (24, -5), (8, 13), (8, 14)] m tg F F137 := Fq_t (ln := ln) (ln1 := ln) hM0 Ex_r hM139 (by decide) (Or.inl rfl)
      refine Or.inl ⟨rfl, ?_⟩
      refine jx_go (tg := 207) rfl rfl ?_
      refine jx_rt (v := none) rfl rfl rfl rfl rfl rfl ?_
      exact ⟨F137, rfl, rfl, hC138, hM141, PSx_m c140 (by omega), trivial⟩
    refine jx_swt (tg := 183) (by omega) (by omega) rfl (by omega) rfl ?_
    refine jx_ld (pc' := 184) (l' := L0) (st' := [rv (me)]) rfl (jl_rvn g16) ?_
    refine jx_ld (pc' := 185) (l' := L0) (st' := [rv (p), rv (me)]) rfl (jl_rvn g17) ?_
    refine cx_gr (pc' := 188) (c := 7) (q := 4) (v := F (p) (4 : Int)) rfl rfl (by decide) (by decide) rfl rfl ho19.1 ho19.2 rfl ?_
    have y142 : F (p) (4 : Int) = 0 ∨ (own m (F (p) (4 : Int)) ∧ tg (F (p) (4 : Int)) = 8) := by have z := HC_r (c := 7) (q := 4) hC ho19.1 ho19.2 (by decide) rfl; rw [show F (p) ((4 : Nat) : Int) = F (p) (4 : Int) from rfl] at z; exact z
    refine cx_vi (c := 11) (a := me) (st := []) (as := [rv (F (p) (4 : Int))]) rfl rfl rfl o_me t_me (by decide) rfl ⟨rfl, rfl, (Nat.le_of_ble_eq_true rfl)⟩ rfl (URx_all X ((kk) - 1) (dd := d) (R := R) (m := m) (tg := tg) (ln := ln) (F := F) (me := me) (e := F (p) (4 : Int)) (hd := by omega) (hC := hC) (o_me := o_me) (t_me := t_me) (y_e := y142) (c_PSx := c_PSx) (c_NT := c_NT) (n_e := (SN_w (SN_c hC c_NT n_p (own_z ho19.1) (by omega)) (by omega)))) (fun o V' hq => ?_)
    obtain ⟨F143, rfl, rfl, hC144, hM145, c146, -⟩ := hq
    have hM147 : Fq 0 [(7, 11), (8, 15), (8, 16), (8, 17), (8, 18), (12, 2), (12, 4), (24, -5), (8, 13), (8, 14)] m tg F F143 := Fq_t (ln := ln) (ln1 := ln) hM0 Ex_r hM145 (by decide) (Or.inl rfl)
    refine Or.inl ⟨rfl, ?_⟩
    refine jx_ld (pc' := 192) (l' := L0) (st' := [rv (me)]) rfl (jl_rvn g16) ?_
    refine jx_ld (pc' := 193) (l' := L0) (st' := [rv (p), rv (me)]) rfl (jl_rvn g17) ?_
    refine cx_gr (pc' := 196) (c := 7) (q := 5) (v := F (p) (5 : Int)) rfl rfl (by decide) (by decide) rfl rfl ho19.1 ho19.2 (show F143 (p) (5 : Int) = F (p) (5 : Int) from hM145 _ _ ho19.1 (own_z ho19.1) (by rw [ho19.2]; rfl)) ?_
    have y148 : F (p) (5 : Int) = 0 ∨ (own m (F (p) (5 : Int)) ∧ tg (F (p) (5 : Int)) = 8) := by have z := HC_r (c := 7) (q := 5) hC144 ho19.1 ho19.2 (by decide) rfl; rw [show F143 (p) ((5 : Nat) : Int) = F (p) (5 : Int) from (show F143 (p) (5 : Int) = F (p) (5 : Int) from hM145 _ _ ho19.1 (own_z ho19.1) (by rw [ho19.2]; rfl))] at z; exact z
    refine cx_vi (c := 11) (a := me) (st := []) (as := [rv (F (p) (5 : Int))]) rfl rfl rfl o_me t_me (by decide) rfl ⟨rfl, rfl, (Nat.le_of_ble_eq_true rfl)⟩ rfl (URx_all X ((kk) - 1) (dd := d) (R := R) (m := m) (tg := tg) (ln := ln) (F := F143) (me := me) (e := F (p) (5 : Int)) (hd := by omega) (hC := hC144) (o_me := o_me) (t_me := t_me) (y_e := y148) (c_PSx := c146) (c_NT := NT_q hC c_NT hM147 rfl) (n_e := (SN_q (SN_w (SN_c hC c_NT n_p (own_z ho19.1) (by omega)) (by omega)) hM147 rfl rfl))) (fun o V' hq => ?_)
    obtain ⟨F149, rfl, rfl, hC150, hM151, c152, -⟩ := hq
    have hM153 : Fq 0 [(7, 11), (8, 15), (8, 16), (8, 17), (8, 18), (12, 2), (12, 4), (24, -5), (8, 13), (8, 14)] m tg F F149 := Fq_t (ln := ln) (ln1 := ln) hM147 Ex_r hM151 (by decide) (Or.inl rfl)
    refine Or.inl ⟨rfl, ?_⟩
    refine jx_ld (pc' := 200) (l' := L0) (st' := [rv (me)]) rfl (jl_rvn g16) ?_
    refine jx_ld (pc' := 201) (l' := L0) (st' := [rv (p), rv (me)]) rfl (jl_rvn g17) ?_
    refine cx_gr (pc' := 204) (c := 7) (q := 7) (v := F (p) (7 : Int)) rfl rfl (by decide) (by decide) rfl rfl ho19.1 ho19.2 ((show F149 (p) (7 : Int) = F143 (p) (7 : Int) from hM151 _ _ ho19.1 (own_z ho19.1) (by rw [ho19.2]; rfl)).trans (show F143 (p) (7 : Int) = F (p) (7 : Int) from hM145 _ _ ho19.1 (own_z ho19.1) (by rw [ho19.2]; rfl))) ?_
    have y154 : F (p) (7 : Int) = 0 ∨ (own m (F (p) (7 : Int)) ∧ tg (F (p) (7 : Int)) = 8) := by have z := HC_r (c := 7) (q := 7) hC150 ho19.1 ho19.2 (by decide) rfl; rw [show F149 (p) ((7 : Nat) : Int) = F (p) (7 : Int) from ((show F149 (p) (7 : Int) = F143 (p) (7 : Int) from hM151 _ _ ho19.1 (own_z ho19.1) (by rw [ho19.2]; rfl)).trans (show F143 (p) (7 : Int) = F (p) (7 : Int) from hM145 _ _ ho19.1 (own_z ho19.1) (by rw [ho19.2]; rfl)))] at z; exact z
    refine cx_vi (c := 11) (a := me) (st := []) (as := [rv (F (p) (7 : Int))]) rfl rfl rfl o_me t_me (by decide) rfl ⟨rfl, rfl, (Nat.le_of_ble_eq_true rfl)⟩ rfl (hE21 (dd := d) (R := R) (m := m) (tg := tg) (ln := ln) (F := F149) (me := me) (p := F (p) (7 : Int)) (hd := by omega) (hC := hC150) (o_me := o_me) (t_me := t_me) (y_p := y154) (c_PSx := c152) (c_NT := NT_q hC c_NT hM153 rfl) (n_p := (SN_q (SN_w (k' := kk - 1) (SN_c hC c_NT n_p (own_z ho19.1) (by omega)) (by omega)) hM153 rfl rfl))) (fun o V' hq => ?_)
    obtain ⟨F155, rfl, rfl, hC156, hM157, c158, -⟩ := hq
    have hM159 : Fq 0 [(7, 11), (8, 15), (8, 16), (8, 17), (8, 18), (12, 2), (12, 4), (24, -5), (8, 13), (8, 14)] m tg F F155 := Fq_t (ln := ln) (ln1 := ln) hM153 Ex_r hM157 (by decide) (Or.inl rfl)
    refine Or.inl ⟨rfl, ?_⟩
    refine jx_rt (v := none) rfl rfl rfl rfl rfl rfl ?_
    exact ⟨F155, rfl, rfl, hC156, hM159, PSx_m c158 (by omega), trivial⟩
  · have _q := h18
    refine jx_rt (v := none) rfl rfl rfl rfl rfl rfl ?_
    exact ⟨F, rfl, rfl, hC, hM0, PSx_m c_PSx (by omega), trivial⟩
theorem UPx_all (X : jX) : ∀ k, UPx X k
  | 0 => @k_LUses_process X 0 (fun h => absurd h (by decide))
  | k + 1 => @k_LUses_process X (k + 1) (fun _ => UPx_all X k)
