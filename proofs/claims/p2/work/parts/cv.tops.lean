set_option maxRecDepth 20000 in
set_option maxHeartbeats 4000000 in
theorem k_LUses_judge_at_65 {X : jX} {d : Nat} {R : Nat → jC} {m : Nat} {tg ln : Int → Int} {F : Int → Int → Int} {me : Int} (hd : 200 ≤ d + 1) (hC : HC 0 m tg ln F) (o_me : own m me) (t_me : tg me = 12) (c_PSx : PSx m tg F) (c_NT : NT m tg F) : ∀ (mm : Nat) (L : jL) (Fx : Int → Int → Int) (p : Int), (6 - p).toNat = mm → jGet L 0 = some (rv (me)) → jGet L 1 = some (.int (i32 p)) → HC 0 m tg ln Fx → Fq 0 [(7, 11), (8, 13), (8, 14), (8, 15), (8, 16), (8, 17), (8, 18), (10, 0), (10, 1), (10, 2), (12, 2), (12, 3), (12, 4), (24, -5)] m tg F Fx → ((-2147483648 : Int) ≤ p ∧ p ≤ 2147483647) → (0 ≤ p) → (p ≤ 6) → (PSx m tg Fx) → wj X d jm226 (65, L, [], cV R m tg ln Fx) (fun o V' => ∃ (F' : Int → Int → Int), V' = cV R m tg ln F' ∧ o = .inl none ∧ HC 0 m tg ln F' ∧ Fq 0 [(7, 11), (8, 13), (8, 14), (8, 15), (8, 16), (8, 17), (8, 18), (10, 0), (10, 1), (10, 2), (12, 2), (12, 3), (12, 4), (24, -5)] m tg F F' ∧ (PSx m tg F') ∧ True) := by
  intro mm
  induction mm using Nat.strongRecOn with
  | ind mm ih =>
    intro L Fx p hmm gL_0 gL_1 hCx hMx rx_p iv_0 iv_1 cx_PSx
    refine jx_ld (pc' := 66) (l' := L) (st' := [.int (i32 (p))]) rfl (jl_iloadn gL_1) ?_
    refine jx_ar (pc' := 68) (st' := [.int (i32 (6)), .int (i32 (p))]) rfl rfl rfl rfl ?_
    refine jx_icmp_ge (pc' := 71) (tg := 100) rfl rfl rfl (by omega) (by omega) (by decide) (by decide) (fun h1 => ?_) (fun h1 => ?_)
    · have _q := h1
      refine jx_ld (pc' := 101) (l' := L) (st' := [rv (me)]) rfl (jl_rvn gL_0) ?_
      refine cx_gi (pc' := 104) (c := 11) (q := 4) (v := Fx (me) (4 : Int)) rfl rfl (by decide) (by decide) (Or.inl rfl) rfl o_me t_me rfl ?_
      have b2 : (-2147483648 : Int) ≤ Fx (me) (4 : Int) ∧ Fx (me) (4 : Int) ≤ 2147483647 := by have z := HC_i (c := 11) (q := 4) hCx o_me t_me (by decide) rfl; rw [show Fx (me) ((4 : Nat) : Int) = Fx (me) (4 : Int) from rfl] at z; exact z
      refine jx_ar (pc' := 105) (st' := [.int (i32 (-1)), .int (i32 (Fx (me) (4 : Int)))]) rfl rfl rfl rfl ?_
      refine jx_icmp_eq (pc' := 108) (tg := 121) rfl rfl rfl (by omega) (by omega) (by decide) (by decide) (fun h3 => ?_) (fun h3 => ?_)
      · have _q := h3
        refine jx_rt (v := none) rfl rfl rfl rfl rfl rfl ?_
        exact ⟨Fx, rfl, rfl, hCx, hMx, PSx_m cx_PSx (by omega), trivial⟩
      · have _q := h3
        refine jx_ld (pc' := 109) (l' := L) (st' := [rv (me)]) rfl (jl_rvn gL_0) ?_
        refine cx_gr (pc' := 112) (c := 11) (q := 0) (v := F (me) (0 : Int)) rfl rfl (by decide) (by decide) rfl rfl o_me t_me (show Fx (me) (0 : Int) = F (me) (0 : Int) from hMx _ _ o_me (own_z o_me) (by rw [t_me]; rfl)) ?_
        have y4 : own m (F (me) (0 : Int)) ∧ tg (F (me) (0 : Int)) = 10 ∧ ((0 : Int) ≠ 0 → ln (F (me) (0 : Int)) = 0) := by have z := HC_n (c := 11) (q := 0) hCx o_me t_me (own_z o_me) (by decide) rfl; rw [show Fx (me) ((0 : Nat) : Int) = F (me) (0 : Int) from (show Fx (me) (0 : Int) = F (me) (0 : Int) from hMx _ _ o_me (own_z o_me) (by rw [t_me]; rfl))] at z; exact ⟨z.1, z.2.1, z.2.2.1⟩
        refine jx_ar (pc' := 113) (st' := [.int (i32 (5)), rv (F (me) (0 : Int))]) rfl rfl rfl rfl ?_
        refine jx_ld (pc' := 114) (l' := L) (st' := [rv (me), .int (i32 (5)), rv (F (me) (0 : Int))]) rfl (jl_rvn gL_0) ?_
        refine cx_gi (pc' := 117) (c := 11) (q := 4) (v := Fx (me) (4 : Int)) rfl rfl (by decide) (by decide) (Or.inl rfl) rfl o_me t_me rfl ?_
        refine jx_ar (pc' := 118) (st' := [.int (i32 (-1)), .int (i32 (Fx (me) (4 : Int))), .int (i32 (5)), rv (F (me) (0 : Int))]) rfl rfl rfl rfl ?_
        refine cx_vi (c := 9) (a := F (me) (0 : Int)) (st := []) (as := [.int (i32 (5)), .int (i32 (Fx (me) (4 : Int))), .int (i32 (-1))]) rfl rfl rfl y4.1 y4.2.1 (by decide) rfl ⟨rfl, rfl, (Nat.le_of_ble_eq_true rfl)⟩ rfl (k_LProgram_blame (dd := d) (R := R) (m := m) (tg := tg) (ln := ln) (F := Fx) (me := F (me) (0 : Int)) (k := 5) (l := Fx (me) (4 : Int)) (p := -1) (hd := by omega) (hC := hCx) (o_me := y4.1) (t_me := y4.2.1) (h_k := by omega) (h_l := by omega) (h_p := by omega)) (fun o V' hq => ?_)
        obtain ⟨F5, rfl, rfl, hC6, hM7, -⟩ := hq
        have hM8 : Fq 0 [(7, 11), (8, 13), (8, 14), (8, 15), (8, 16), (8, 17), (8, 18), (10, 0), (10, 1), (10, 2), (12, 2), (12, 3), (12, 4), (24, -5)] m tg F F5 := Fq_t (ln := ln) (ln1 := ln) hMx Ex_r hM7 (by decide) (Or.inl rfl)
        have c9 : PSx m tg F5 := PSx_q cx_PSx hM7 rfl
        refine Or.inl ⟨rfl, ?_⟩
        refine jx_rt (v := none) rfl rfl rfl rfl rfl rfl ?_
        exact ⟨F5, rfl, rfl, hC6, hM8, PSx_m c9 (by omega), trivial⟩
    · have _q := h1
      refine jx_ld (pc' := 72) (l' := L) (st' := [rv (me)]) rfl (jl_rvn gL_0) ?_
      refine jx_ld (pc' := 73) (l' := L) (st' := [.int (i32 (p)), rv (me)]) rfl (jl_iloadn gL_1) ?_
      refine cx_pi (pc' := 76) (c := 11) (q := 3) (qi := (3 : Int)) (z := p) rfl rfl (by decide) (by decide) rfl rfl rfl (by decide) rfl o_me t_me rfl ?_
      obtain ⟨F10, eF10⟩ : ∃ q, q = uF Fx (me) (3 : Int) (p) := ⟨_, rfl⟩
      rw [← eF10]
      have hC11 : HC 0 m tg ln F10 := by rw [eF10]; exact HC_fi (c := 11) (q := 3) hCx t_me (by decide) rfl (by omega) (by omega) ⟨fun w => absurd w (by decide), fun w => absurd w (by decide)⟩
      have hM12 : Fq 0 [(7, 11), (8, 13), (8, 14), (8, 15), (8, 16), (8, 17), (8, 18), (10, 0), (10, 1), (10, 2), (12, 2), (12, 3), (12, 4), (24, -5)] m tg F F10 := by rw [eF10]; exact Fq_p hMx t_me (fun _ => rfl) rfl
      have c13 : PSx m tg F10 := by rw [eF10]; exact PSx_u cx_PSx t_me (by omega)
      refine jx_ld (pc' := 77) (l' := L) (st' := [rv (me)]) rfl (jl_rvn gL_0) ?_
      refine jx_ar (pc' := 78) (st' := [.int (i32 (0)), rv (me)]) rfl rfl rfl rfl ?_
      refine cx_pi (pc' := 81) (c := 11) (q := 2) (qi := (2 : Int)) (z := 0) rfl rfl (by decide) (by decide) rfl rfl rfl (by decide) rfl o_me t_me rfl ?_
      obtain ⟨F14, eF14⟩ : ∃ q, q = uF F10 (me) (2 : Int) (0) := ⟨_, rfl⟩
      rw [← eF14]
      have hC15 : HC 0 m tg ln F14 := by rw [eF14]; exact HC_fi (c := 11) (q := 2) hC11 t_me (by decide) rfl (by omega) (by omega) ⟨fun w => absurd w (by decide), fun w => absurd w (by decide)⟩
      have hM16 : Fq 0 [(7, 11), (8, 13), (8, 14), (8, 15), (8, 16), (8, 17), (8, 18), (10, 0), (10, 1), (10, 2), (12, 2), (12, 3), (12, 4), (24, -5)] m tg F F14 := by rw [eF14]; exact Fq_p hM12 t_me (fun _ => rfl) rfl
      have c17 : PSx m tg F14 := by rw [eF14]; exact PSx_u c13 t_me (by omega)
      refine jx_ld (pc' := 82) (l' := L) (st' := [rv (me)]) rfl (jl_rvn gL_0) ?_
      refine jx_ld (pc' := 83) (l' := L) (st' := [rv (me), rv (me)]) rfl (jl_rvn gL_0) ?_
      refine cx_gr (pc' := 86) (c := 11) (q := 0) (v := F (me) (0 : Int)) rfl rfl (by decide) (by decide) rfl rfl o_me t_me ((show F14 (me) (0 : Int) = F10 (me) (0 : Int) from by rw [eF14]; exact uF_j (by decide)).trans ((show F10 (me) (0 : Int) = Fx (me) (0 : Int) from by rw [eF10]; exact uF_j (by decide)).trans (show Fx (me) (0 : Int) = F (me) (0 : Int) from hMx _ _ o_me (own_z o_me) (by rw [t_me]; rfl)))) ?_
      have y18 : own m (F (me) (0 : Int)) ∧ tg (F (me) (0 : Int)) = 10 ∧ ((0 : Int) ≠ 0 → ln (F (me) (0 : Int)) = 0) := by have z := HC_n (c := 11) (q := 0) hC15 o_me t_me (own_z o_me) (by decide) rfl; rw [show F14 (me) ((0 : Nat) : Int) = F (me) (0 : Int) from ((show F14 (me) (0 : Int) = F10 (me) (0 : Int) from by rw [eF14]; exact uF_j (by decide)).trans ((show F10 (me) (0 : Int) = Fx (me) (0 : Int) from by rw [eF10]; exact uF_j (by decide)).trans (show Fx (me) (0 : Int) = F (me) (0 : Int) from hMx _ _ o_me (own_z o_me) (by rw [t_me]; rfl))))] at z; exact ⟨z.1, z.2.1, z.2.2.1⟩
      refine cx_gr (pc' := 89) (c := 9) (q := 3) (v := F (F (me) (0 : Int)) (3 : Int)) rfl rfl (by decide) (by decide) rfl rfl y18.1 y18.2.1 ((show F14 (F (me) (0 : Int)) (3 : Int) = F10 (F (me) (0 : Int)) (3 : Int) from by rw [eF14]; exact uF_j (by decide)).trans ((show F10 (F (me) (0 : Int)) (3 : Int) = Fx (F (me) (0 : Int)) (3 : Int) from by rw [eF10]; exact uF_a (fun w => by have q1 := y18.2.1; have q2 := t_me; rw [w, q2] at q1; exact absurd q1 (by decide))).trans (show Fx (F (me) (0 : Int)) (3 : Int) = F (F (me) (0 : Int)) (3 : Int) from hMx _ _ y18.1 (own_z y18.1) (by rw [y18.2.1]; rfl)))) ?_
      have y19 : own m (F (F (me) (0 : Int)) (3 : Int)) ∧ tg (F (F (me) (0 : Int)) (3 : Int)) = 24 ∧ ((6 : Int) ≠ 0 → ln (F (F (me) (0 : Int)) (3 : Int)) = 6) := by have z := HC_n (c := 9) (q := 3) hC15 y18.1 y18.2.1 (own_z y18.1) (by decide) rfl; rw [show F14 (F (me) (0 : Int)) ((3 : Nat) : Int) = F (F (me) (0 : Int)) (3 : Int) from ((show F14 (F (me) (0 : Int)) (3 : Int) = F10 (F (me) (0 : Int)) (3 : Int) from by rw [eF14]; exact uF_j (by decide)).trans ((show F10 (F (me) (0 : Int)) (3 : Int) = Fx (F (me) (0 : Int)) (3 : Int) from by rw [eF10]; exact uF_a (fun w => by have q1 := y18.2.1; have q2 := t_me; rw [w, q2] at q1; exact absurd q1 (by decide))).trans (show Fx (F (me) (0 : Int)) (3 : Int) = F (F (me) (0 : Int)) (3 : Int) from hMx _ _ y18.1 (own_z y18.1) (by rw [y18.2.1]; rfl))))] at z; exact ⟨z.1, z.2.1, z.2.2.1⟩
      have ly19 : ln (F (F (me) (0 : Int)) (3 : Int)) = 6 := y19.2.2 (by decide)
      refine jx_ld (pc' := 90) (l' := L) (st' := [.int (i32 (p)), rv (F (F (me) (0 : Int)) (3 : Int)), rv (me)]) rfl (jl_iloadn gL_1) ?_
      have b20 := HC_l hC15 y19.1 y19.2.1 (by decide)
      refine cx_aal (pc' := 91) (z := p) rfl rfl y19.1 (by rw [y19.2.1]; decide) (by omega) (by omega) (by omega) ?_
      rw [show F14 (F (F (me) (0 : Int)) (3 : Int)) (p) = Fx (F (F (me) (0 : Int)) (3 : Int)) (p) from ((show F14 (F (F (me) (0 : Int)) (3 : Int)) (p) = F10 (F (F (me) (0 : Int)) (3 : Int)) (p) from by rw [eF14]; exact uF_a (fun w => by have q1 := y19.2.1; have q2 := t_me; rw [w, q2] at q1; exact absurd q1 (by decide))).trans (show F10 (F (F (me) (0 : Int)) (3 : Int)) (p) = Fx (F (F (me) (0 : Int)) (3 : Int)) (p) from by rw [eF10]; exact uF_a (fun w => by have q1 := y19.2.1; have q2 := t_me; rw [w, q2] at q1; exact absurd q1 (by decide))))]
      have y21 : Fx (F (F (me) (0 : Int)) (3 : Int)) (p) = 0 ∨ (own m (Fx (F (F (me) (0 : Int)) (3 : Int)) (p)) ∧ tg (Fx (F (F (me) (0 : Int)) (3 : Int)) (p)) = 8) := by have z := HC_er (j := p) hC15 y19.1 y19.2.1 (by decide) (by omega); rw [show F14 (F (F (me) (0 : Int)) (3 : Int)) (p) = Fx (F (F (me) (0 : Int)) (3 : Int)) (p) from ((show F14 (F (F (me) (0 : Int)) (3 : Int)) (p) = F10 (F (F (me) (0 : Int)) (3 : Int)) (p) from by rw [eF14]; exact uF_a (fun w => by have q1 := y19.2.1; have q2 := t_me; rw [w, q2] at q1; exact absurd q1 (by decide))).trans (show F10 (F (F (me) (0 : Int)) (3 : Int)) (p) = Fx (F (F (me) (0 : Int)) (3 : Int)) (p) from by rw [eF10]; exact uF_a (fun w => by have q1 := y19.2.1; have q2 := t_me; rw [w, q2] at q1; exact absurd q1 (by decide))))] at z; exact z
      refine cx_vi (c := 11) (a := me) (st := []) (as := [rv (Fx (F (F (me) (0 : Int)) (3 : Int)) (p))]) rfl rfl rfl o_me t_me (by decide) rfl ⟨rfl, rfl, (Nat.le_of_ble_eq_true rfl)⟩ rfl (UPx_all X (60) (dd := d) (R := R) (m := m) (tg := tg) (ln := ln) (F := F14) (me := me) (p := Fx (F (F (me) (0 : Int)) (3 : Int)) (p)) (hd := by omega) (hC := hC15) (o_me := o_me) (t_me := t_me) (y_p := y21) (c_PSx := c17) (c_NT := NT_q hC c_NT hM16 rfl) (n_p := (by have z := c17.1.1 _ y19.1 y19.2.1 (show F14 (F (F (me) (0 : Int)) (3 : Int)) (-1) = 0 by have z := HC_n (c := 9) (q := 3) hC15 y18.1 y18.2.1 (own_z y18.1) (by decide) rfl; rw [show F14 (F (me) (0 : Int)) ((3 : Nat) : Int) = F (F (me) (0 : Int)) (3 : Int) from ((show F14 (F (me) (0 : Int)) (3 : Int) = F10 (F (me) (0 : Int)) (3 : Int) from by rw [eF14]; exact uF_j (by decide)).trans ((show F10 (F (me) (0 : Int)) (3 : Int) = Fx (F (me) (0 : Int)) (3 : Int) from by rw [eF10]; exact uF_a (fun w => by have q1 := y18.2.1; have q2 := t_me; rw [w, q2] at q1; exact absurd q1 (by decide))).trans (show Fx (F (me) (0 : Int)) (3 : Int) = F (F (me) (0 : Int)) (3 : Int) from hMx _ _ y18.1 (own_z y18.1) (by rw [y18.2.1]; rfl))))] at z; exact z.2.2.2 (by decide)) (p) (by omega); rw [show F14 (F (F (me) (0 : Int)) (3 : Int)) (p) = Fx (F (F (me) (0 : Int)) (3 : Int)) (p) from ((show F14 (F (F (me) (0 : Int)) (3 : Int)) (p) = F10 (F (F (me) (0 : Int)) (3 : Int)) (p) from by rw [eF14]; exact uF_a (fun w => by have q1 := y19.2.1; have q2 := t_me; rw [w, q2] at q1; exact absurd q1 (by decide))).trans (show F10 (F (F (me) (0 : Int)) (3 : Int)) (p) = Fx (F (F (me) (0 : Int)) (3 : Int)) (p) from by rw [eF10]; exact uF_a (fun w => by have q1 := y19.2.1; have q2 := t_me; rw [w, q2] at q1; exact absurd q1 (by decide))))] at z; exact z))) (fun o V' hq => ?_)
      obtain ⟨F22, rfl, rfl, hC23, hM24, c25, -⟩ := hq
      have hM26 : Fq 0 [(7, 11), (8, 13), (8, 14), (8, 15), (8, 16), (8, 17), (8, 18), (10, 0), (10, 1), (10, 2), (12, 2), (12, 3), (12, 4), (24, -5)] m tg F F22 := Fq_t (ln := ln) (ln1 := ln) hM16 Ex_r hM24 (by decide) (Or.inl rfl)
      refine Or.inl ⟨rfl, ?_⟩
      refine jx_inc (pc' := 97) (l' := jSto1 L 1 (.int (i32 (p + (1))))) (x := p) rfl gL_1 (by decide) rfl rfl ?_
      obtain ⟨L27, eL27⟩ : ∃ q : jL, q = jSto1 L 1 (.int (i32 ((p + (1))))) := ⟨_, rfl⟩
      rw [← eL27]
      have g28 : jGet L27 0 = some (rv (me)) := eL27 ▸ jg_nr (by decide) gL_0
      have g29 : jGet L27 1 = some (.int (i32 ((p + (1))))) := eL27 ▸ jg_eq
      clear eL27
      refine jx_go (tg := 65) rfl rfl ?_
      exact ih _ (by omega) L27 F22 ((p + (1))) rfl g28 g29 hC23 hM26 (by omega) (by omega) (by omega) (PSx_m c25 (by omega))
set_option maxRecDepth 20000 in
set_option maxHeartbeats 4000000 in
theorem k_LUses_judge_at_7 {X : jX} {d : Nat} {R : Nat → jC} {m : Nat} {tg ln : Int → Int} {F : Int → Int → Int} {me : Int} (hd : 200 ≤ d + 1) (hC : HC 0 m tg ln F) (o_me : own m me) (t_me : tg me = 12) (c_PSx : PSx m tg F) (c_NT : NT m tg F) : ∀ (mm : Nat) (L : jL) (Fx : Int → Int → Int) (k : Int), (24 - k).toNat = mm → jGet L 0 = some (rv (me)) → jGet L 1 = some (.int (i32 k)) → HC 0 m tg ln Fx → Fq 0 [(7, 11), (8, 13), (8, 14), (8, 15), (8, 16), (8, 17), (8, 18), (10, 0), (10, 1), (10, 2), (12, 2), (12, 3), (12, 4), (24, -5)] m tg F Fx → ((-2147483648 : Int) ≤ k ∧ k ≤ 2147483647) → (0 ≤ k) → (PSx m tg Fx) → wj X d jm226 (7, L, [], cV R m tg ln Fx) (fun o V' => ∃ (F' : Int → Int → Int), V' = cV R m tg ln F' ∧ o = .inl none ∧ HC 0 m tg ln F' ∧ Fq 0 [(7, 11), (8, 13), (8, 14), (8, 15), (8, 16), (8, 17), (8, 18), (10, 0), (10, 1), (10, 2), (12, 2), (12, 3), (12, 4), (24, -5)] m tg F F' ∧ (PSx m tg F') ∧ True) := by
  intro mm
  induction mm using Nat.strongRecOn with
  | ind mm ih =>
    intro L Fx k hmm gL_0 gL_1 hCx hMx rx_k iv_0 cx_PSx
    refine jx_ld (pc' := 8) (l' := L) (st' := [.int (i32 (k))]) rfl (jl_iloadn gL_1) ?_
    refine jx_ld (pc' := 9) (l' := L) (st' := [rv (me), .int (i32 (k))]) rfl (jl_rvn gL_0) ?_
    refine cx_gr (pc' := 12) (c := 11) (q := 0) (v := F (me) (0 : Int)) rfl rfl (by decide) (by decide) rfl rfl o_me t_me (show Fx (me) (0 : Int) = F (me) (0 : Int) from hMx _ _ o_me (own_z o_me) (by rw [t_me]; rfl)) ?_
    have y30 : own m (F (me) (0 : Int)) ∧ tg (F (me) (0 : Int)) = 10 ∧ ((0 : Int) ≠ 0 → ln (F (me) (0 : Int)) = 0) := by have z := HC_n (c := 11) (q := 0) hCx o_me t_me (own_z o_me) (by decide) rfl; rw [show Fx (me) ((0 : Nat) : Int) = F (me) (0 : Int) from (show Fx (me) (0 : Int) = F (me) (0 : Int) from hMx _ _ o_me (own_z o_me) (by rw [t_me]; rfl))] at z; exact ⟨z.1, z.2.1, z.2.2.1⟩
    refine cx_gi (pc' := 15) (c := 9) (q := 5) (v := F (F (me) (0 : Int)) (5 : Int)) rfl rfl (by decide) (by decide) (Or.inl rfl) rfl y30.1 y30.2.1 (show Fx (F (me) (0 : Int)) (5 : Int) = F (F (me) (0 : Int)) (5 : Int) from hMx _ _ y30.1 (own_z y30.1) (by rw [y30.2.1]; rfl)) ?_
    have b31 : (0 : Int) ≤ F (F (me) (0 : Int)) (5 : Int) ∧ F (F (me) (0 : Int)) (5 : Int) ≤ 24 := by have z := HC_i (c := 9) (q := 5) hCx y30.1 y30.2.1 (by decide) rfl; rw [show Fx (F (me) (0 : Int)) ((5 : Nat) : Int) = F (F (me) (0 : Int)) (5 : Int) from (show Fx (F (me) (0 : Int)) (5 : Int) = F (F (me) (0 : Int)) (5 : Int) from hMx _ _ y30.1 (own_z y30.1) (by rw [y30.2.1]; rfl))] at z; exact z
    refine jx_icmp_ge (pc' := 18) (tg := 63) rfl rfl rfl (by omega) (by omega) (by omega) (by omega) (fun h32 => ?_) (fun h32 => ?_)
    · have _q := h32
      refine jx_ar (pc' := 64) (st' := [.int (i32 (0))]) rfl rfl rfl rfl ?_
      refine jx_ld (pc' := 65) (l' := jSto1 L 1 (.int (i32 (0)))) (st' := []) rfl rfl ?_
      obtain ⟨L33, eL33⟩ : ∃ q : jL, q = jSto1 L 1 (.int (i32 (0))) := ⟨_, rfl⟩
      rw [← eL33]
      have g34 : jGet L33 0 = some (rv (me)) := eL33 ▸ jg_nr (by decide) gL_0
      have g35 : jGet L33 1 = some (.int (i32 (0))) := eL33 ▸ jg_eq
      clear eL33
      exact k_LUses_judge_at_65 (X := X) (d := d) (R := R) (m := m) (tg := tg) (ln := ln) (F := F) (me := me) (hd := hd) (hC := hC) (o_me := o_me) (t_me := t_me) (c_PSx := c_PSx) (c_NT := c_NT) _ L33 Fx (0) rfl g34 g35 hCx hMx (by omega) (by omega) (by omega) (PSx_m cx_PSx (by omega))
    · have _q := h32
      refine jx_ld (pc' := 19) (l' := L) (st' := [.int (i32 (k))]) rfl (jl_iloadn gL_1) ?_
      refine jx_ld (pc' := 20) (l' := L) (st' := [rv (me), .int (i32 (k))]) rfl (jl_rvn gL_0) ?_
      refine cx_gr (pc' := 23) (c := 11) (q := 0) (v := F (me) (0 : Int)) rfl rfl (by decide) (by decide) rfl rfl o_me t_me (show Fx (me) (0 : Int) = F (me) (0 : Int) from hMx _ _ o_me (own_z o_me) (by rw [t_me]; rfl)) ?_
      refine cx_gr (pc' := 26) (c := 9) (q := 4) (v := F (F (me) (0 : Int)) (4 : Int)) rfl rfl (by decide) (by decide) rfl rfl y30.1 y30.2.1 (show Fx (F (me) (0 : Int)) (4 : Int) = F (F (me) (0 : Int)) (4 : Int) from hMx _ _ y30.1 (own_z y30.1) (by rw [y30.2.1]; rfl)) ?_
      have y36 : own m (F (F (me) (0 : Int)) (4 : Int)) ∧ tg (F (F (me) (0 : Int)) (4 : Int)) = 25 ∧ ((24 : Int) ≠ 0 → ln (F (F (me) (0 : Int)) (4 : Int)) = 24) := by have z := HC_n (c := 9) (q := 4) hCx y30.1 y30.2.1 (own_z y30.1) (by decide) rfl; rw [show Fx (F (me) (0 : Int)) ((4 : Nat) : Int) = F (F (me) (0 : Int)) (4 : Int) from (show Fx (F (me) (0 : Int)) (4 : Int) = F (F (me) (0 : Int)) (4 : Int) from hMx _ _ y30.1 (own_z y30.1) (by rw [y30.2.1]; rfl))] at z; exact ⟨z.1, z.2.1, z.2.2.1⟩
      have ly36 : ln (F (F (me) (0 : Int)) (4 : Int)) = 24 := y36.2.2 (by decide)
      have b37 := HC_l hCx y36.1 y36.2.1 (by decide)
      refine cx_len (pc' := 27) rfl rfl y36.1 (by rw [y36.2.1]; decide) (by omega) ?_
      refine jx_icmp_ge (pc' := 30) (tg := 63) rfl rfl rfl (by omega) (by omega) (by omega) (by omega) (fun h38 => ?_) (fun h38 => ?_)
      · have _q := h38
        refine jx_ar (pc' := 64) (st' := [.int (i32 (0))]) rfl rfl rfl rfl ?_
        refine jx_ld (pc' := 65) (l' := jSto1 L 1 (.int (i32 (0)))) (st' := []) rfl rfl ?_
        obtain ⟨L39, eL39⟩ : ∃ q : jL, q = jSto1 L 1 (.int (i32 (0))) := ⟨_, rfl⟩
        rw [← eL39]
        have g40 : jGet L39 0 = some (rv (me)) := eL39 ▸ jg_nr (by decide) gL_0
        have g41 : jGet L39 1 = some (.int (i32 (0))) := eL39 ▸ jg_eq
        clear eL39
        exact k_LUses_judge_at_65 (X := X) (d := d) (R := R) (m := m) (tg := tg) (ln := ln) (F := F) (me := me) (hd := hd) (hC := hC) (o_me := o_me) (t_me := t_me) (c_PSx := c_PSx) (c_NT := c_NT) _ L39 Fx (0) rfl g40 g41 hCx hMx (by omega) (by omega) (by omega) (PSx_m cx_PSx (by omega))
      · have _q := h38
        refine jx_ld (pc' := 31) (l' := L) (st' := [rv (me)]) rfl (jl_rvn gL_0) ?_
        refine cx_gr (pc' := 34) (c := 11) (q := 0) (v := F (me) (0 : Int)) rfl rfl (by decide) (by decide) rfl rfl o_me t_me (show Fx (me) (0 : Int) = F (me) (0 : Int) from hMx _ _ o_me (own_z o_me) (by rw [t_me]; rfl)) ?_
        refine cx_gr (pc' := 37) (c := 9) (q := 4) (v := F (F (me) (0 : Int)) (4 : Int)) rfl rfl (by decide) (by decide) rfl rfl y30.1 y30.2.1 (show Fx (F (me) (0 : Int)) (4 : Int) = F (F (me) (0 : Int)) (4 : Int) from hMx _ _ y30.1 (own_z y30.1) (by rw [y30.2.1]; rfl)) ?_
        refine jx_ld (pc' := 38) (l' := L) (st' := [.int (i32 (k)), rv (F (F (me) (0 : Int)) (4 : Int))]) rfl (jl_iloadn gL_1) ?_
        refine cx_aal (pc' := 39) (z := k) rfl rfl y36.1 (by rw [y36.2.1]; decide) (by omega) (by omega) (by omega) ?_
        rw [show Fx (F (F (me) (0 : Int)) (4 : Int)) (k) = F (F (F (me) (0 : Int)) (4 : Int)) (k) from (show Fx (F (F (me) (0 : Int)) (4 : Int)) (k) = F (F (F (me) (0 : Int)) (4 : Int)) (k) from hMx _ _ y36.1 (own_z y36.1) (by rw [y36.2.1]; rfl))]
        have y42 : F (F (F (me) (0 : Int)) (4 : Int)) (k) = 0 ∨ (own m (F (F (F (me) (0 : Int)) (4 : Int)) (k)) ∧ tg (F (F (F (me) (0 : Int)) (4 : Int)) (k)) = 7) := by have z := HC_er (j := k) hCx y36.1 y36.2.1 (by decide) (by omega); rw [show Fx (F (F (me) (0 : Int)) (4 : Int)) (k) = F (F (F (me) (0 : Int)) (4 : Int)) (k) from (show Fx (F (F (me) (0 : Int)) (4 : Int)) (k) = F (F (F (me) (0 : Int)) (4 : Int)) (k) from hMx _ _ y36.1 (own_z y36.1) (by rw [y36.2.1]; rfl))] at z; exact z
        refine jx_ld (pc' := 40) (l' := jSto1 L 2 (rv (F (F (F (me) (0 : Int)) (4 : Int)) (k)))) (st' := []) rfl (js_rvn (by decide)) ?_
        obtain ⟨L43, eL43⟩ : ∃ q : jL, q = jSto1 L 2 (rv (F (F (F (me) (0 : Int)) (4 : Int)) (k))) := ⟨_, rfl⟩
        rw [← eL43]
        have g44 : jGet L43 0 = some (rv (me)) := eL43 ▸ jg_nr (by decide) gL_0
        have g45 : jGet L43 1 = some (.int (i32 (k))) := eL43 ▸ jg_ne (by decide) gL_1 rfl
        have g46 : jGet L43 2 = some (rv (F (F (F (me) (0 : Int)) (4 : Int)) (k))) := eL43 ▸ jg_eq
        clear eL43
        refine jx_ld (pc' := 41) (l' := L43) (st' := [rv (me)]) rfl (jl_rvn g44) ?_
        refine jx_ar (pc' := 42) (st' := [.int (i32 (0)), rv (me)]) rfl rfl rfl rfl ?_
        refine cx_pi (pc' := 45) (c := 11) (q := 2) (qi := (2 : Int)) (z := 0) rfl rfl (by decide) (by decide) rfl rfl rfl (by decide) rfl o_me t_me rfl ?_
        obtain ⟨F47, eF47⟩ : ∃ q, q = uF Fx (me) (2 : Int) (0) := ⟨_, rfl⟩
        rw [← eF47]
        have hC48 : HC 0 m tg ln F47 := by rw [eF47]; exact HC_fi (c := 11) (q := 2) hCx t_me (by decide) rfl (by omega) (by omega) ⟨fun w => absurd w (by decide), fun w => absurd w (by decide)⟩
        have hM49 : Fq 0 [(7, 11), (8, 13), (8, 14), (8, 15), (8, 16), (8, 17), (8, 18), (10, 0), (10, 1), (10, 2), (12, 2), (12, 3), (12, 4), (24, -5)] m tg F F47 := by rw [eF47]; exact Fq_p hMx t_me (fun _ => rfl) rfl
        have c50 : PSx m tg F47 := by rw [eF47]; exact PSx_u cx_PSx t_me (by omega)
        refine jx_ld (pc' := 46) (l' := L43) (st' := [rv (F (F (F (me) (0 : Int)) (4 : Int)) (k))]) rfl (jl_rvn g46) ?_
        refine cx_nul (pc' := 49) (tg' := 57) rfl rfl rfl (fun h51 => ?_) (fun h51 => ?_)
        · have _q := h51
          refine jx_inc (pc' := 60) (l' := jSto1 L43 1 (.int (i32 (k + (1))))) (x := k) rfl g45 (by decide) rfl rfl ?_
          obtain ⟨L52, eL52⟩ : ∃ q : jL, q = jSto1 L43 1 (.int (i32 ((k + (1))))) := ⟨_, rfl⟩
          rw [← eL52]
          have g53 : jGet L52 0 = some (rv (me)) := eL52 ▸ jg_nr (by decide) g44
          have g54 : jGet L52 2 = some (rv (F (F (F (me) (0 : Int)) (4 : Int)) (k))) := eL52 ▸ jg_nr (by decide) g46
          have g55 : jGet L52 1 = some (.int (i32 ((k + (1))))) := eL52 ▸ jg_eq
          clear eL52
          refine jx_go (tg := 7) rfl rfl ?_
          exact ih _ (by omega) L52 F47 ((k + (1))) rfl g53 g55 hC48 hM49 (by omega) (by omega) (PSx_m c50 (by omega))
        · have _q := h51
          have ho56 : own m (F (F (F (me) (0 : Int)) (4 : Int)) (k)) ∧ tg (F (F (F (me) (0 : Int)) (4 : Int)) (k)) = 7 := y42.resolve_left h51
          refine jx_ld (pc' := 50) (l' := L43) (st' := [rv (me)]) rfl (jl_rvn g44) ?_
          refine jx_ld (pc' := 51) (l' := L43) (st' := [rv (F (F (F (me) (0 : Int)) (4 : Int)) (k)), rv (me)]) rfl (jl_rvn g46) ?_
          refine cx_gr (pc' := 54) (c := 6) (q := 12) (v := F (F (F (F (me) (0 : Int)) (4 : Int)) (k)) (12 : Int)) rfl rfl (by decide) (by decide) rfl rfl ho56.1 ho56.2 ((show F47 (F (F (F (me) (0 : Int)) (4 : Int)) (k)) (12 : Int) = Fx (F (F (F (me) (0 : Int)) (4 : Int)) (k)) (12 : Int) from by rw [eF47]; exact uF_j (by decide)).trans (show Fx (F (F (F (me) (0 : Int)) (4 : Int)) (k)) (12 : Int) = F (F (F (F (me) (0 : Int)) (4 : Int)) (k)) (12 : Int) from hMx _ _ ho56.1 (own_z ho56.1) (by rw [ho56.2]; rfl))) ?_
          have y57 : F (F (F (F (me) (0 : Int)) (4 : Int)) (k)) (12 : Int) = 0 ∨ (own m (F (F (F (F (me) (0 : Int)) (4 : Int)) (k)) (12 : Int)) ∧ tg (F (F (F (F (me) (0 : Int)) (4 : Int)) (k)) (12 : Int)) = 8) := by have z := HC_r (c := 6) (q := 12) hC48 ho56.1 ho56.2 (by decide) rfl; rw [show F47 (F (F (F (me) (0 : Int)) (4 : Int)) (k)) ((12 : Nat) : Int) = F (F (F (F (me) (0 : Int)) (4 : Int)) (k)) (12 : Int) from ((show F47 (F (F (F (me) (0 : Int)) (4 : Int)) (k)) (12 : Int) = Fx (F (F (F (me) (0 : Int)) (4 : Int)) (k)) (12 : Int) from by rw [eF47]; exact uF_j (by decide)).trans (show Fx (F (F (F (me) (0 : Int)) (4 : Int)) (k)) (12 : Int) = F (F (F (F (me) (0 : Int)) (4 : Int)) (k)) (12 : Int) from hMx _ _ ho56.1 (own_z ho56.1) (by rw [ho56.2]; rfl)))] at z; exact z
          refine cx_vi (c := 11) (a := me) (st := []) (as := [rv (F (F (F (F (me) (0 : Int)) (4 : Int)) (k)) (12 : Int))]) rfl rfl rfl o_me t_me (by decide) rfl ⟨rfl, rfl, (Nat.le_of_ble_eq_true rfl)⟩ rfl (UPx_all X (60) (dd := d) (R := R) (m := m) (tg := tg) (ln := ln) (F := F47) (me := me) (p := F (F (F (F (me) (0 : Int)) (4 : Int)) (k)) (12 : Int)) (hd := by omega) (hC := hC48) (o_me := o_me) (t_me := t_me) (y_p := y57) (c_PSx := c50) (c_NT := NT_q hC c_NT hM49 rfl) (n_p := (SN_q (SN_w (c_PSx.1.2 _ ho56.1 ho56.2) (by omega)) hM49 rfl rfl))) (fun o V' hq => ?_)
          obtain ⟨F58, rfl, rfl, hC59, hM60, c61, -⟩ := hq
          have hM62 : Fq 0 [(7, 11), (8, 13), (8, 14), (8, 15), (8, 16), (8, 17), (8, 18), (10, 0), (10, 1), (10, 2), (12, 2), (12, 3), (12, 4), (24, -5)] m tg F F58 := Fq_t (ln := ln) (ln1 := ln) hM49 Ex_r hM60 (by decide) (Or.inl rfl)
          refine Or.inl ⟨rfl, ?_⟩
          refine jx_inc (pc' := 60) (l' := jSto1 L43 1 (.int (i32 (k + (1))))) (x := k) rfl g45 (by decide) rfl rfl ?_
          obtain ⟨L63, eL63⟩ : ∃ q : jL, q = jSto1 L43 1 (.int (i32 ((k + (1))))) := ⟨_, rfl⟩
          rw [← eL63]
          have g64 : jGet L63 0 = some (rv (me)) := eL63 ▸ jg_nr (by decide) g44
          have g65 : jGet L63 2 = some (rv (F (F (F (me) (0 : Int)) (4 : Int)) (k))) := eL63 ▸ jg_nr (by decide) g46
          have g66 : jGet L63 1 = some (.int (i32 ((k + (1))))) := eL63 ▸ jg_eq
          clear eL63
          refine jx_go (tg := 7) rfl rfl ?_
          exact ih _ (by omega) L63 F58 ((k + (1))) rfl g64 g66 hC59 hM62 (by omega) (by omega) (PSx_m c61 (by omega))
set_option maxRecDepth 20000 in
set_option maxHeartbeats 4000000 in
theorem k_LUses_judge {X : jX} {dd : Nat} {R : Nat → jC} {m : Nat} {tg ln : Int → Int} {F : Int → Int → Int} {me : Int} (hd : 200 ≤ dd) (hC : HC 0 m tg ln F) (o_me : own m me) (t_me : tg me = 12) (c_PSx : PSx m tg F) (c_NT : NT m tg F) : wk X dd 226 [rv me] (cV R m tg ln F) (fun o V' => ∃ (F' : Int → Int → Int), V' = cV R m tg ln F' ∧ o = .inl none ∧ HC 0 m tg ln F' ∧ Fq 0 [(7, 11), (8, 13), (8, 14), (8, 15), (8, 16), (8, 17), (8, 18), (10, 0), (10, 1), (10, 2), (12, 2), (12, 3), (12, 4), (24, -5)] m tg F F' ∧ (PSx m tg F') ∧ True) := by
  obtain ⟨d, rfl⟩ : ∃ d, dd = d + 1 := ⟨dd - 1, by omega⟩
  refine wk_of (e := jm226) rfl (by rw [jS_r, jS_0]; exact Nat.le_of_ble_eq_true rfl) ?_
  rw [la_r, la_0]
  show wj X d jm226 (0, [(0, rv (me))], [], cV R m tg ln F) _
  have hM0 : Fq 0 [(7, 11), (8, 13), (8, 14), (8, 15), (8, 16), (8, 17), (8, 18), (10, 0), (10, 1), (10, 2), (12, 2), (12, 3), (12, 4), (24, -5)] m tg F F := Fq_r
  obtain ⟨L0, eL0⟩ : ∃ q : jL, q = [(0, rv (me))] := ⟨_, rfl⟩
  rw [← eL0]
  have g67 : jGet L0 0 = some (rv (me)) := eL0 ▸ (rfl : jGet [(0, rv (me))] 0 = some (rv (me)))
  clear eL0
  refine jx_ld (pc' := 1) (l' := L0) (st' := [rv (me)]) rfl (jl_rvn g67) ?_
  refine jx_ar (pc' := 2) (st' := [.int (i32 (-1)), rv (me)]) rfl rfl rfl rfl ?_
  refine cx_pi (pc' := 5) (c := 11) (q := 3) (qi := (3 : Int)) (z := -1) rfl rfl (by decide) (by decide) rfl rfl rfl (by decide) rfl o_me t_me rfl ?_
  obtain ⟨F68, eF68⟩ : ∃ q, q = uF F (me) (3 : Int) (-1) := ⟨_, rfl⟩
  rw [← eF68]
  have hC69 : HC 0 m tg ln F68 := by rw [eF68]; exact HC_fi (c := 11) (q := 3) hC t_me (by decide) rfl (by omega) (by omega) ⟨fun w => absurd w (by decide), fun w => absurd w (by decide)⟩
  have hM70 : Fq 0 [(7, 11), (8, 13), (8, 14), (8, 15), (8, 16), (8, 17), (8, 18), (10, 0), (10, 1), (10, 2), (12, 2), (12, 3), (12, 4), (24, -5)] m tg F F68 := by rw [eF68]; exact Fq_p hM0 t_me (fun _ => rfl) rfl
  have c71 : PSx m tg F68 := by rw [eF68]; exact PSx_u c_PSx t_me (by omega)
  refine jx_ar (pc' := 6) (st' := [.int (i32 (0))]) rfl rfl rfl rfl ?_
  refine jx_ld (pc' := 7) (l' := jSto1 L0 1 (.int (i32 (0)))) (st' := []) rfl rfl ?_
  obtain ⟨L72, eL72⟩ : ∃ q : jL, q = jSto1 L0 1 (.int (i32 (0))) := ⟨_, rfl⟩
  rw [← eL72]
  have g73 : jGet L72 0 = some (rv (me)) := eL72 ▸ jg_nr (by decide) g67
  have g74 : jGet L72 1 = some (.int (i32 (0))) := eL72 ▸ jg_eq
  clear eL72
  exact k_LUses_judge_at_7 (X := X) (d := d) (R := R) (m := m) (tg := tg) (ln := ln) (F := F) (me := me) (hd := hd) (hC := hC) (o_me := o_me) (t_me := t_me) (c_PSx := c_PSx) (c_NT := c_NT) _ L72 F68 (0) rfl g73 g74 hC69 hM70 (by omega) (by omega) (PSx_m c71 (by omega))
set_option maxRecDepth 20000 in
set_option maxHeartbeats 4000000 in
theorem k_LLayout_measure_at_119 {X : jX} {d : Nat} {R : Nat → jC} {m : Nat} {tg ln : Int → Int} {F : Int → Int → Int} {me pg_ : Int} (hd : 200 ≤ d + 1) (hC : HC 0 m tg ln F) (o_me : own m me) (t_me : tg me = 4) (o_pg_ : own m pg_) (t_pg_ : tg pg_ = 10) (c_NT : NT m tg F) (c_PG : PG m tg F) : ∀ (mm : Nat) (L : jL) (Fx : Int → Int → Int) (p : Int), (6 - p).toNat = mm → jGet L 0 = some (rv (me)) → jGet L 1 = some (rv (pg_)) → jGet L 2 = some (.int (i32 p)) → HC 0 m tg ln Fx → Fq 0 [(4, 0), (7, 3), (7, 4), (7, 5), (8, 10), (8, 11), (8, 12), (10, 0), (10, 1), (10, 2)] m tg F Fx → ((-2147483648 : Int) ≤ p ∧ p ≤ 2147483647) → (0 ≤ p) → (p ≤ 6) → wj X d jm123 (119, L, [], cV R m tg ln Fx) (fun o V' => ∃ (F' : Int → Int → Int), V' = cV R m tg ln F' ∧ o = .inl none ∧ HC 0 m tg ln F' ∧ Fq 0 [(4, 0), (7, 3), (7, 4), (7, 5), (8, 10), (8, 11), (8, 12), (10, 0), (10, 1), (10, 2)] m tg F F' ∧ True) := by
  intro mm
  induction mm using Nat.strongRecOn with
  | ind mm ih =>
    intro L Fx p hmm gL_0 gL_1 gL_2 hCx hMx rx_p iv_0 iv_1
    refine jx_ld (pc' := 120) (l' := L) (st' := [.int (i32 (p))]) rfl (jl_iloadn gL_2) ?_
    refine jx_ar (pc' := 122) (st' := [.int (i32 (6)), .int (i32 (p))]) rfl rfl rfl rfl ?_
    refine jx_icmp_ge (pc' := 125) (tg := 153) rfl rfl rfl (by omega) (by omega) (by decide) (by decide) (fun h1 => ?_) (fun h1 => ?_)
    · have _q := h1
      refine jx_rt (v := none) rfl rfl rfl rfl rfl rfl ?_
      exact ⟨Fx, rfl, rfl, hCx, hMx, trivial⟩
    · have _q := h1
      refine jx_ld (pc' := 126) (l' := L) (st' := [rv (pg_)]) rfl (jl_rvn gL_1) ?_
      refine cx_gr (pc' := 129) (c := 9) (q := 3) (v := F (pg_) (3 : Int)) rfl rfl (by decide) (by decide) rfl rfl o_pg_ t_pg_ (show Fx (pg_) (3 : Int) = F (pg_) (3 : Int) from hMx _ _ o_pg_ (own_z o_pg_) (by rw [t_pg_]; rfl)) ?_
      have y2 : own m (F (pg_) (3 : Int)) ∧ tg (F (pg_) (3 : Int)) = 24 ∧ ((6 : Int) ≠ 0 → ln (F (pg_) (3 : Int)) = 6) := by have z := HC_n (c := 9) (q := 3) hCx o_pg_ t_pg_ (own_z o_pg_) (by decide) rfl; rw [show Fx (pg_) ((3 : Nat) : Int) = F (pg_) (3 : Int) from (show Fx (pg_) (3 : Int) = F (pg_) (3 : Int) from hMx _ _ o_pg_ (own_z o_pg_) (by rw [t_pg_]; rfl))] at z; exact ⟨z.1, z.2.1, z.2.2.1⟩
      have ly2 : ln (F (pg_) (3 : Int)) = 6 := y2.2.2 (by decide)
      refine jx_ld (pc' := 130) (l' := L) (st' := [.int (i32 (p)), rv (F (pg_) (3 : Int))]) rfl (jl_iloadn gL_2) ?_
      have b3 := HC_l hCx y2.1 y2.2.1 (by decide)
      refine cx_aal (pc' := 131) (z := p) rfl rfl y2.1 (by rw [y2.2.1]; decide) (by omega) (by omega) (by omega) ?_
      rw [show Fx (F (pg_) (3 : Int)) (p) = F (F (pg_) (3 : Int)) (p) from (show Fx (F (pg_) (3 : Int)) (p) = F (F (pg_) (3 : Int)) (p) from hMx _ _ y2.1 (own_z y2.1) (by rw [y2.2.1]; rfl))]
      have y4 : F (F (pg_) (3 : Int)) (p) = 0 ∨ (own m (F (F (pg_) (3 : Int)) (p)) ∧ tg (F (F (pg_) (3 : Int)) (p)) = 8) := by have z := HC_er (j := p) hCx y2.1 y2.2.1 (by decide) (by omega); rw [show Fx (F (pg_) (3 : Int)) (p) = F (F (pg_) (3 : Int)) (p) from (show Fx (F (pg_) (3 : Int)) (p) = F (F (pg_) (3 : Int)) (p) from hMx _ _ y2.1 (own_z y2.1) (by rw [y2.2.1]; rfl))] at z; exact z
      refine jx_ld (pc' := 132) (l' := jSto1 L 3 (rv (F (F (pg_) (3 : Int)) (p)))) (st' := []) rfl (js_rvn (by decide)) ?_
      obtain ⟨L5, eL5⟩ : ∃ q : jL, q = jSto1 L 3 (rv (F (F (pg_) (3 : Int)) (p))) := ⟨_, rfl⟩
      rw [← eL5]
      have g6 : jGet L5 0 = some (rv (me)) := eL5 ▸ jg_nr (by decide) gL_0
      have g7 : jGet L5 1 = some (rv (pg_)) := eL5 ▸ jg_nr (by decide) gL_1
      have g8 : jGet L5 2 = some (.int (i32 (p))) := eL5 ▸ jg_ne (by decide) gL_2 rfl
      have g9 : jGet L5 3 = some (rv (F (F (pg_) (3 : Int)) (p))) := eL5 ▸ jg_eq
      clear eL5
      refine jx_ld (pc' := 133) (l' := L5) (st' := [rv (F (F (pg_) (3 : Int)) (p))]) rfl (jl_rvn g9) ?_
      refine cx_nul (pc' := 136) (tg' := 147) rfl rfl rfl (fun h10 => ?_) (fun h10 => ?_)
      · have _q := h10
        refine jx_inc (pc' := 150) (l' := jSto1 L5 2 (.int (i32 (p + (1))))) (x := p) rfl g8 (by decide) rfl rfl ?_
        obtain ⟨L11, eL11⟩ : ∃ q : jL, q = jSto1 L5 2 (.int (i32 ((p + (1))))) := ⟨_, rfl⟩
        rw [← eL11]
        have g12 : jGet L11 0 = some (rv (me)) := eL11 ▸ jg_nr (by decide) g6
        have g13 : jGet L11 1 = some (rv (pg_)) := eL11 ▸ jg_nr (by decide) g7
        have g14 : jGet L11 3 = some (rv (F (F (pg_) (3 : Int)) (p))) := eL11 ▸ jg_nr (by decide) g9
        have g15 : jGet L11 2 = some (.int (i32 ((p + (1))))) := eL11 ▸ jg_eq
        clear eL11
        refine jx_go (tg := 119) rfl rfl ?_
        exact ih _ (by omega) L11 Fx ((p + (1))) rfl g12 g13 g15 hCx hMx (by omega) (by omega) (by omega)
      · have _q := h10
        have ho16 : own m (F (F (pg_) (3 : Int)) (p)) ∧ tg (F (F (pg_) (3 : Int)) (p)) = 8 := y4.resolve_left h10
        have k17 := SN_p (c_PG.1 _ y2.1 y2.2.1 (show F (F (pg_) (3 : Int)) (-1) = 0 by have z := HC_n (c := 9) (q := 3) hC o_pg_ t_pg_ (own_z o_pg_) (by decide) rfl; exact z.2.2.2 (by decide)) _ (by omega)) h10
        refine jx_ld (pc' := 137) (l' := L5) (st' := [rv (me)]) rfl (jl_rvn g6) ?_
        refine jx_ld (pc' := 138) (l' := L5) (st' := [rv (F (F (pg_) (3 : Int)) (p)), rv (me)]) rfl (jl_rvn g9) ?_
        refine jx_ar (pc' := 139) (st' := [.int (i32 (1)), rv (F (F (pg_) (3 : Int)) (p)), rv (me)]) rfl rfl rfl rfl ?_
        refine cx_vi (c := 3) (a := me) (st := []) (as := [rv (F (F (pg_) (3 : Int)) (p)), .int (i32 (1))]) rfl rfl rfl o_me t_me (by decide) rfl ⟨rfl, rfl, (Nat.le_of_ble_eq_true rfl)⟩ rfl (k_LLayout_frame (dd := d) (R := R) (m := m) (tg := tg) (ln := ln) (F := Fx) (kk := 60 + 1) (hE := fun _ => LPx_all X _) (me := me) (bd := F (F (pg_) (3 : Int)) (p)) (wd := 1) (hd := by omega) (hC := hCx) (o_me := o_me) (t_me := t_me) (o_bd := ho16.1) (t_bd := ho16.2) (h_wd := by omega) (p_0 := by omega) (c_NT := NT_q hC c_NT hMx rfl) (n_bd := (SN_q (SN_w (c_PG.1 _ y2.1 y2.2.1 (show F (F (pg_) (3 : Int)) (-1) = 0 by have z := HC_n (c := 9) (q := 3) hC o_pg_ t_pg_ (own_z o_pg_) (by decide) rfl; exact z.2.2.2 (by decide)) _ (by omega)) (by omega)) hMx rfl rfl))) (fun o V' hq => ?_)
        obtain ⟨F18, rfl, rfl, hC19, hM20, -⟩ := hq
        have hM21 : Fq 0 [(4, 0), (7, 3), (7, 4), (7, 5), (8, 10), (8, 11), (8, 12), (10, 0), (10, 1), (10, 2)] m tg F F18 := Fq_t (ln := ln) (ln1 := ln) hMx Ex_r hM20 (by decide) (Or.inl rfl)
        refine Or.inl ⟨rfl, ?_⟩
        refine jx_ld (pc' := 143) (l' := L5) (st' := [rv (pg_)]) rfl (jl_rvn g7) ?_
        refine jx_ld (pc' := 144) (l' := L5) (st' := [rv (F (F (pg_) (3 : Int)) (p)), rv (pg_)]) rfl (jl_rvn g9) ?_
        refine cx_st (st := []) (as := [rv (pg_), rv (F (F (pg_) (3 : Int)) (p))]) rfl rfl rfl ⟨rfl, (Nat.le_of_ble_eq_true rfl)⟩ rfl (k_LLayout_judge (dd := d) (R := R) (m := m) (tg := tg) (ln := ln) (F := F18) (pg := pg_) (bd := F (F (pg_) (3 : Int)) (p)) (hd := by omega) (hC := hC19) (o_pg := o_pg_) (t_pg := t_pg_) (o_bd := ho16.1) (t_bd := ho16.2)) (fun o V' hq => ?_)
        obtain ⟨F22, rfl, rfl, hC23, hM24, -⟩ := hq
        have hM25 : Fq 0 [(4, 0), (7, 3), (7, 4), (7, 5), (8, 10), (8, 11), (8, 12), (10, 0), (10, 1), (10, 2)] m tg F F22 := Fq_t (ln := ln) (ln1 := ln) hM21 Ex_r hM24 (by decide) (Or.inl rfl)
        refine Or.inl ⟨rfl, ?_⟩
        refine jx_inc (pc' := 150) (l' := jSto1 L5 2 (.int (i32 (p + (1))))) (x := p) rfl g8 (by decide) rfl rfl ?_
        obtain ⟨L26, eL26⟩ : ∃ q : jL, q = jSto1 L5 2 (.int (i32 ((p + (1))))) := ⟨_, rfl⟩
        rw [← eL26]
        have g27 : jGet L26 0 = some (rv (me)) := eL26 ▸ jg_nr (by decide) g6
        have g28 : jGet L26 1 = some (rv (pg_)) := eL26 ▸ jg_nr (by decide) g7
        have g29 : jGet L26 3 = some (rv (F (F (pg_) (3 : Int)) (p))) := eL26 ▸ jg_nr (by decide) g9
        have g30 : jGet L26 2 = some (.int (i32 ((p + (1))))) := eL26 ▸ jg_eq
        clear eL26
        refine jx_go (tg := 119) rfl rfl ?_
        exact ih _ (by omega) L26 F22 ((p + (1))) rfl g27 g28 g30 hC23 hM25 (by omega) (by omega) (by omega)
set_option maxRecDepth 20000 in
set_option maxHeartbeats 4000000 in
theorem k_LLayout_measure_at_2 {X : jX} {d : Nat} {R : Nat → jC} {m : Nat} {tg ln : Int → Int} {F : Int → Int → Int} {me pg_ : Int} (hd : 200 ≤ d + 1) (hC : HC 0 m tg ln F) (o_me : own m me) (t_me : tg me = 4) (o_pg_ : own m pg_) (t_pg_ : tg pg_ = 10) (c_NT : NT m tg F) (c_PG : PG m tg F) : ∀ (mm : Nat) (L : jL) (Fx : Int → Int → Int) (k : Int), (24 - k).toNat = mm → jGet L 0 = some (rv (me)) → jGet L 1 = some (rv (pg_)) → jGet L 2 = some (.int (i32 k)) → HC 0 m tg ln Fx → Fq 0 [(4, 0), (7, 3), (7, 4), (7, 5), (8, 10), (8, 11), (8, 12), (10, 0), (10, 1), (10, 2)] m tg F Fx → ((-2147483648 : Int) ≤ k ∧ k ≤ 2147483647) → (0 ≤ k) → wj X d jm123 (2, L, [], cV R m tg ln Fx) (fun o V' => ∃ (F' : Int → Int → Int), V' = cV R m tg ln F' ∧ o = .inl none ∧ HC 0 m tg ln F' ∧ Fq 0 [(4, 0), (7, 3), (7, 4), (7, 5), (8, 10), (8, 11), (8, 12), (10, 0), (10, 1), (10, 2)] m tg F F' ∧ True) := by
  intro mm
  induction mm using Nat.strongRecOn with
  | ind mm ih =>
    intro L Fx k hmm gL_0 gL_1 gL_2 hCx hMx rx_k iv_0
    refine jx_ld (pc' := 3) (l' := L) (st' := [.int (i32 (k))]) rfl (jl_iloadn gL_2) ?_
    refine jx_ld (pc' := 4) (l' := L) (st' := [rv (pg_), .int (i32 (k))]) rfl (jl_rvn gL_1) ?_
    refine cx_gi (pc' := 7) (c := 9) (q := 5) (v := F (pg_) (5 : Int)) rfl rfl (by decide) (by decide) (Or.inl rfl) rfl o_pg_ t_pg_ (show Fx (pg_) (5 : Int) = F (pg_) (5 : Int) from hMx _ _ o_pg_ (own_z o_pg_) (by rw [t_pg_]; rfl)) ?_
    have b31 : (0 : Int) ≤ F (pg_) (5 : Int) ∧ F (pg_) (5 : Int) ≤ 24 := by have z := HC_i (c := 9) (q := 5) hCx o_pg_ t_pg_ (by decide) rfl; rw [show Fx (pg_) ((5 : Nat) : Int) = F (pg_) (5 : Int) from (show Fx (pg_) (5 : Int) = F (pg_) (5 : Int) from hMx _ _ o_pg_ (own_z o_pg_) (by rw [t_pg_]; rfl))] at z; exact z
    refine jx_icmp_ge (pc' := 10) (tg := 117) rfl rfl rfl (by omega) (by omega) (by omega) (by omega) (fun h32 => ?_) (fun h32 => ?_)
    · have _q := h32
      refine jx_ar (pc' := 118) (st' := [.int (i32 (0))]) rfl rfl rfl rfl ?_
      refine jx_ld (pc' := 119) (l' := jSto1 L 2 (.int (i32 (0)))) (st' := []) rfl rfl ?_
      obtain ⟨L33, eL33⟩ : ∃ q : jL, q = jSto1 L 2 (.int (i32 (0))) := ⟨_, rfl⟩
      rw [← eL33]
      have g34 : jGet L33 0 = some (rv (me)) := eL33 ▸ jg_nr (by decide) gL_0
      have g35 : jGet L33 1 = some (rv (pg_)) := eL33 ▸ jg_nr (by decide) gL_1
      have g36 : jGet L33 2 = some (.int (i32 (0))) := eL33 ▸ jg_eq
      clear eL33
      exact k_LLayout_measure_at_119 (X := X) (d := d) (R := R) (m := m) (tg := tg) (ln := ln) (F := F) (me := me) (pg_ := pg_) (hd := hd) (hC := hC) (o_me := o_me) (t_me := t_me) (o_pg_ := o_pg_) (t_pg_ := t_pg_) (c_NT := c_NT) (c_PG := c_PG) _ L33 Fx (0) rfl g34 g35 g36 hCx hMx (by omega) (by omega) (by omega)
    · have _q := h32
      refine jx_ld (pc' := 11) (l' := L) (st' := [.int (i32 (k))]) rfl (jl_iloadn gL_2) ?_
      refine jx_ld (pc' := 12) (l' := L) (st' := [rv (pg_), .int (i32 (k))]) rfl (jl_rvn gL_1) ?_
      refine cx_gr (pc' := 15) (c := 9) (q := 4) (v := F (pg_) (4 : Int)) rfl rfl (by decide) (by decide) rfl rfl o_pg_ t_pg_ (show Fx (pg_) (4 : Int) = F (pg_) (4 : Int) from hMx _ _ o_pg_ (own_z o_pg_) (by rw [t_pg_]; rfl)) ?_
      have y37 : own m (F (pg_) (4 : Int)) ∧ tg (F (pg_) (4 : Int)) = 25 ∧ ((24 : Int) ≠ 0 → ln (F (pg_) (4 : Int)) = 24) := by have z := HC_n (c := 9) (q := 4) hCx o_pg_ t_pg_ (own_z o_pg_) (by decide) rfl; rw [show Fx (pg_) ((4 : Nat) : Int) = F (pg_) (4 : Int) from (show Fx (pg_) (4 : Int) = F (pg_) (4 : Int) from hMx _ _ o_pg_ (own_z o_pg_) (by rw [t_pg_]; rfl))] at z; exact ⟨z.1, z.2.1, z.2.2.1⟩
      have ly37 : ln (F (pg_) (4 : Int)) = 24 := y37.2.2 (by decide)
      have b38 := HC_l hCx y37.1 y37.2.1 (by decide)
      refine cx_len (pc' := 16) rfl rfl y37.1 (by rw [y37.2.1]; decide) (by omega) ?_
      refine jx_icmp_ge (pc' := 19) (tg := 117) rfl rfl rfl (by omega) (by omega) (by omega) (by omega) (fun h39 => ?_) (fun h39 => ?_)
      · have _q := h39
        refine jx_ar (pc' := 118) (st' := [.int (i32 (0))]) rfl rfl rfl rfl ?_
        refine jx_ld (pc' := 119) (l' := jSto1 L 2 (.int (i32 (0)))) (st' := []) rfl rfl ?_
        obtain ⟨L40, eL40⟩ : ∃ q : jL, q = jSto1 L 2 (.int (i32 (0))) := ⟨_, rfl⟩
        rw [← eL40]
        have g41 : jGet L40 0 = some (rv (me)) := eL40 ▸ jg_nr (by decide) gL_0
        have g42 : jGet L40 1 = some (rv (pg_)) := eL40 ▸ jg_nr (by decide) gL_1
        have g43 : jGet L40 2 = some (.int (i32 (0))) := eL40 ▸ jg_eq
        clear eL40
        exact k_LLayout_measure_at_119 (X := X) (d := d) (R := R) (m := m) (tg := tg) (ln := ln) (F := F) (me := me) (pg_ := pg_) (hd := hd) (hC := hC) (o_me := o_me) (t_me := t_me) (o_pg_ := o_pg_) (t_pg_ := t_pg_) (c_NT := c_NT) (c_PG := c_PG) _ L40 Fx (0) rfl g41 g42 g43 hCx hMx (by omega) (by omega) (by omega)
      · have _q := h39
        refine jx_ld (pc' := 20) (l' := L) (st' := [rv (pg_)]) rfl (jl_rvn gL_1) ?_
        refine cx_gr (pc' := 23) (c := 9) (q := 4) (v := F (pg_) (4 : Int)) rfl rfl (by decide) (by decide) rfl rfl o_pg_ t_pg_ (show Fx (pg_) (4 : Int) = F (pg_) (4 : Int) from hMx _ _ o_pg_ (own_z o_pg_) (by rw [t_pg_]; rfl)) ?_
        refine jx_ld (pc' := 24) (l' := L) (st' := [.int (i32 (k)), rv (F (pg_) (4 : Int))]) rfl (jl_iloadn gL_2) ?_
        refine cx_aal (pc' := 25) (z := k) rfl rfl y37.1 (by rw [y37.2.1]; decide) (by omega) (by omega) (by omega) ?_
        rw [show Fx (F (pg_) (4 : Int)) (k) = F (F (pg_) (4 : Int)) (k) from (show Fx (F (pg_) (4 : Int)) (k) = F (F (pg_) (4 : Int)) (k) from hMx _ _ y37.1 (own_z y37.1) (by rw [y37.2.1]; rfl))]
        have y44 : F (F (pg_) (4 : Int)) (k) = 0 ∨ (own m (F (F (pg_) (4 : Int)) (k)) ∧ tg (F (F (pg_) (4 : Int)) (k)) = 7) := by have z := HC_er (j := k) hCx y37.1 y37.2.1 (by decide) (by omega); rw [show Fx (F (pg_) (4 : Int)) (k) = F (F (pg_) (4 : Int)) (k) from (show Fx (F (pg_) (4 : Int)) (k) = F (F (pg_) (4 : Int)) (k) from hMx _ _ y37.1 (own_z y37.1) (by rw [y37.2.1]; rfl))] at z; exact z
        refine jx_ld (pc' := 26) (l' := jSto1 L 3 (rv (F (F (pg_) (4 : Int)) (k)))) (st' := []) rfl (js_rvn (by decide)) ?_
        obtain ⟨L45, eL45⟩ : ∃ q : jL, q = jSto1 L 3 (rv (F (F (pg_) (4 : Int)) (k))) := ⟨_, rfl⟩
        rw [← eL45]
        have g46 : jGet L45 0 = some (rv (me)) := eL45 ▸ jg_nr (by decide) gL_0
        have g47 : jGet L45 1 = some (rv (pg_)) := eL45 ▸ jg_nr (by decide) gL_1
        have g48 : jGet L45 2 = some (.int (i32 (k))) := eL45 ▸ jg_ne (by decide) gL_2 rfl
        have g49 : jGet L45 3 = some (rv (F (F (pg_) (4 : Int)) (k))) := eL45 ▸ jg_eq
        clear eL45
        refine jx_ld (pc' := 27) (l' := L45) (st' := [rv (F (F (pg_) (4 : Int)) (k))]) rfl (jl_rvn g49) ?_
        refine cx_nul (pc' := 30) (tg' := 111) rfl rfl rfl (fun h50 => ?_) (fun h50 => ?_)
        · have _q := h50
          refine jx_inc (pc' := 114) (l' := jSto1 L45 2 (.int (i32 (k + (1))))) (x := k) rfl g48 (by decide) rfl rfl ?_
          obtain ⟨L51, eL51⟩ : ∃ q : jL, q = jSto1 L45 2 (.int (i32 ((k + (1))))) := ⟨_, rfl⟩
          rw [← eL51]
          have g52 : jGet L51 0 = some (rv (me)) := eL51 ▸ jg_nr (by decide) g46
          have g53 : jGet L51 1 = some (rv (pg_)) := eL51 ▸ jg_nr (by decide) g47
          have g54 : jGet L51 3 = some (rv (F (F (pg_) (4 : Int)) (k))) := eL51 ▸ jg_nr (by decide) g49
          have g55 : jGet L51 2 = some (.int (i32 ((k + (1))))) := eL51 ▸ jg_eq
          clear eL51
          refine jx_go (tg := 2) rfl rfl ?_
          exact ih _ (by omega) L51 Fx ((k + (1))) rfl g52 g53 g55 hCx hMx (by omega) (by omega)
        · have _q := h50
          have ho56 : own m (F (F (pg_) (4 : Int)) (k)) ∧ tg (F (F (pg_) (4 : Int)) (k)) = 7 := y44.resolve_left h50
          refine jx_ld (pc' := 31) (l' := L45) (st' := [rv (F (F (pg_) (4 : Int)) (k))]) rfl (jl_rvn g49) ?_
          refine cx_gr (pc' := 34) (c := 6) (q := 12) (v := F (F (F (pg_) (4 : Int)) (k)) (12 : Int)) rfl rfl (by decide) (by decide) rfl rfl ho56.1 ho56.2 (show Fx (F (F (pg_) (4 : Int)) (k)) (12 : Int) = F (F (F (pg_) (4 : Int)) (k)) (12 : Int) from hMx _ _ ho56.1 (own_z ho56.1) (by rw [ho56.2]; rfl)) ?_
          have y57 : F (F (F (pg_) (4 : Int)) (k)) (12 : Int) = 0 ∨ (own m (F (F (F (pg_) (4 : Int)) (k)) (12 : Int)) ∧ tg (F (F (F (pg_) (4 : Int)) (k)) (12 : Int)) = 8) := by have z := HC_r (c := 6) (q := 12) hCx ho56.1 ho56.2 (by decide) rfl; rw [show Fx (F (F (pg_) (4 : Int)) (k)) ((12 : Nat) : Int) = F (F (F (pg_) (4 : Int)) (k)) (12 : Int) from (show Fx (F (F (pg_) (4 : Int)) (k)) (12 : Int) = F (F (F (pg_) (4 : Int)) (k)) (12 : Int) from hMx _ _ ho56.1 (own_z ho56.1) (by rw [ho56.2]; rfl))] at z; exact z
          refine cx_nul (pc' := 37) (tg' := 111) rfl rfl rfl (fun h58 => ?_) (fun h58 => ?_)
          · have _q := h58
            refine jx_inc (pc' := 114) (l' := jSto1 L45 2 (.int (i32 (k + (1))))) (x := k) rfl g48 (by decide) rfl rfl ?_
            obtain ⟨L59, eL59⟩ : ∃ q : jL, q = jSto1 L45 2 (.int (i32 ((k + (1))))) := ⟨_, rfl⟩
            rw [← eL59]
            have g60 : jGet L59 0 = some (rv (me)) := eL59 ▸ jg_nr (by decide) g46
            have g61 : jGet L59 1 = some (rv (pg_)) := eL59 ▸ jg_nr (by decide) g47
            have g62 : jGet L59 3 = some (rv (F (F (pg_) (4 : Int)) (k))) := eL59 ▸ jg_nr (by decide) g49
            have g63 : jGet L59 2 = some (.int (i32 ((k + (1))))) := eL59 ▸ jg_eq
            clear eL59
            refine jx_go (tg := 2) rfl rfl ?_
            exact ih _ (by omega) L59 Fx ((k + (1))) rfl g60 g61 g63 hCx hMx (by omega) (by omega)
          · have _q := h58
            have ho64 : own m (F (F (F (pg_) (4 : Int)) (k)) (12 : Int)) ∧ tg (F (F (F (pg_) (4 : Int)) (k)) (12 : Int)) = 8 := y57.resolve_left h58
            have k65 := SN_p (c_PG.2 _ ho56.1 ho56.2) h58
            refine jx_ar (pc' := 38) (st' := [.int (i32 (1))]) rfl rfl rfl rfl ?_
            refine jx_ld (pc' := 40) (l' := jSto1 L45 4 (.int (i32 (1)))) (st' := []) rfl rfl ?_
            obtain ⟨L66, eL66⟩ : ∃ q : jL, q = jSto1 L45 4 (.int (i32 (1))) := ⟨_, rfl⟩
            rw [← eL66]
            have g67 : jGet L66 0 = some (rv (me)) := eL66 ▸ jg_nr (by decide) g46
            have g68 : jGet L66 1 = some (rv (pg_)) := eL66 ▸ jg_nr (by decide) g47
            have g69 : jGet L66 2 = some (.int (i32 (k))) := eL66 ▸ jg_ne (by decide) g48 rfl
            have g70 : jGet L66 3 = some (rv (F (F (pg_) (4 : Int)) (k))) := eL66 ▸ jg_nr (by decide) g49
            have g71 : jGet L66 4 = some (.int (i32 (1))) := eL66 ▸ jg_eq
            clear eL66
            refine jx_ld (pc' := 41) (l' := L66) (st' := [rv (F (F (pg_) (4 : Int)) (k))]) rfl (jl_rvn g70) ?_
            refine cx_gr (pc' := 44) (c := 6) (q := 13) (v := F (F (F (pg_) (4 : Int)) (k)) (13 : Int)) rfl rfl (by decide) (by decide) rfl rfl ho56.1 ho56.2 (show Fx (F (F (pg_) (4 : Int)) (k)) (13 : Int) = F (F (F (pg_) (4 : Int)) (k)) (13 : Int) from hMx _ _ ho56.1 (own_z ho56.1) (by rw [ho56.2]; rfl)) ?_
            have y72 : F (F (F (pg_) (4 : Int)) (k)) (13 : Int) = 0 ∨ (own m (F (F (F (pg_) (4 : Int)) (k)) (13 : Int)) ∧ tg (F (F (F (pg_) (4 : Int)) (k)) (13 : Int)) = 7) := by have z := HC_r (c := 6) (q := 13) hCx ho56.1 ho56.2 (by decide) rfl; rw [show Fx (F (F (pg_) (4 : Int)) (k)) ((13 : Nat) : Int) = F (F (F (pg_) (4 : Int)) (k)) (13 : Int) from (show Fx (F (F (pg_) (4 : Int)) (k)) (13 : Int) = F (F (F (pg_) (4 : Int)) (k)) (13 : Int) from hMx _ _ ho56.1 (own_z ho56.1) (by rw [ho56.2]; rfl))] at z; exact z
            refine jx_ld (pc' := 46) (l' := jSto1 L66 5 (rv (F (F (F (pg_) (4 : Int)) (k)) (13 : Int)))) (st' := []) rfl (js_rv (by decide)) ?_
            obtain ⟨L73, eL73⟩ : ∃ q : jL, q = jSto1 L66 5 (rv (F (F (F (pg_) (4 : Int)) (k)) (13 : Int))) := ⟨_, rfl⟩
            rw [← eL73]
            have g74 : jGet L73 0 = some (rv (me)) := eL73 ▸ jg_nr (by decide) g67
            have g75 : jGet L73 1 = some (rv (pg_)) := eL73 ▸ jg_nr (by decide) g68
            have g76 : jGet L73 2 = some (.int (i32 (k))) := eL73 ▸ jg_ne (by decide) g69 rfl
            have g77 : jGet L73 3 = some (rv (F (F (pg_) (4 : Int)) (k))) := eL73 ▸ jg_nr (by decide) g70
            have g78 : jGet L73 4 = some (.int (i32 (1))) := eL73 ▸ jg_ne (by decide) g71 rfl
            have g79 : jGet L73 5 = some (rv (F (F (F (pg_) (4 : Int)) (k)) (13 : Int))) := eL73 ▸ jg_eq
            clear eL73
            have hin : ∀ (mm2 : Nat) (L2 : jL) (Fx2 : Int → Int → Int) (wd pa : Int), (mz m pa).toNat = mm2 → jGet L2 0 = some (rv (me)) → jGet L2 1 = some (rv (pg_)) → jGet L2 2 = some (.int (i32 (k))) → jGet L2 3 = some (rv (F (F (pg_) (4 : Int)) (k))) → jGet L2 4 = some (.int (i32 wd)) → jGet L2 5 = some (rv pa) → HC 0 m tg ln Fx2 → Fq 0 [(4, 0), (7, 3), (7, 4), (7, 5), (8, 10), (8, 11), (8, 12), (10, 0), (10, 1), (10, 2)] m tg F Fx2 → ((-2147483648 : Int) ≤ wd ∧ wd ≤ 2147483647) → (pa = 0 ∨ (own m pa ∧ tg pa = 7)) → wj X d jm123 (46, L2, [], cV R m tg ln Fx2) (fun o V' => ∃ (F' : Int → Int → Int), V' = cV R m tg ln F' ∧ o = .inl none ∧ HC 0 m tg ln F' ∧ Fq 0 [(4, 0), (7, 3), (7, 4), (7, 5), (8, 10), (8, 11), (8, 12), (10, 0), (10, 1), (10, 2)] m tg F F' ∧ True) := by
              intro mm2
              induction mm2 using Nat.strongRecOn with
              | ind mm2 ih2 =>
                intro L2 Fx2 wd pa hmm2 gL2_0 gL2_1 gL2_2 gL2_3 gL2_4 gL2_5 hCx2 hMx2 rx2_wd yx2_pa
                refine jx_ld (pc' := 48) (l' := L2) (st' := [rv (pa)]) rfl (jl_rv gL2_5) ?_
                refine cx_nul (pc' := 51) (tg' := 71) rfl rfl rfl (fun h80 => ?_) (fun h80 => ?_)
                · have _q := h80
                  refine jx_ld (pc' := 72) (l' := L2) (st' := [rv (me)]) rfl (jl_rvn gL2_0) ?_
                  refine jx_ld (pc' := 73) (l' := L2) (st' := [rv (F (F (pg_) (4 : Int)) (k)), rv (me)]) rfl (jl_rvn gL2_3) ?_
                  refine cx_gr (pc' := 76) (c := 6) (q := 12) (v := F (F (F (pg_) (4 : Int)) (k)) (12 : Int)) rfl rfl (by decide) (by decide) rfl rfl ho56.1 ho56.2 (show Fx2 (F (F (pg_) (4 : Int)) (k)) (12 : Int) = F (F (F (pg_) (4 : Int)) (k)) (12 : Int) from hMx2 _ _ ho56.1 (own_z ho56.1) (by rw [ho56.2]; rfl)) ?_
                  refine jx_ld (pc' := 78) (l' := L2) (st' := [.int (i32 (wd)), rv (F (F (F (pg_) (4 : Int)) (k)) (12 : Int)), rv (me)]) rfl (jl_iload gL2_4) ?_
                  refine cx_vi (c := 3) (a := me) (st := []) (as := [rv (F (F (F (pg_) (4 : Int)) (k)) (12 : Int)), .int (i32 (wd))]) rfl rfl rfl o_me t_me (by decide) rfl ⟨rfl, rfl, (Nat.le_of_ble_eq_true rfl)⟩ rfl (k_LLayout_frame (dd := d) (R := R) (m := m) (tg := tg) (ln := ln) (F := Fx2) (kk := 60 + 1) (hE := fun _ => LPx_all X _) (me := me) (bd := F (F (F (pg_) (4 : Int)) (k)) (12 : Int)) (wd := wd) (hd := by omega) (hC := hCx2) (o_me := o_me) (t_me := t_me) (o_bd := ho64.1) (t_bd := ho64.2) (h_wd := by omega) (p_0 := by omega) (c_NT := NT_q hC c_NT hMx2 rfl) (n_bd := (SN_q (SN_w (c_PG.2 _ ho56.1 ho56.2) (by omega)) hMx2 rfl rfl))) (fun o V' hq => ?_)
                  obtain ⟨F81, rfl, rfl, hC82, hM83, -⟩ := hq
                  have hM84 : Fq 0 [(4, 0), (7, 3), (7, 4), (7, 5), (8, 10), (8, 11), (8, 12), (10, 0), (10, 1), (10, 2)] m tg F F81 := Fq_t (ln := ln) (ln1 := ln) hMx2 Ex_r hM83 (by decide) (Or.inl rfl)
                  refine Or.inl ⟨rfl, ?_⟩
                  refine jx_ld (pc' := 82) (l' := L2) (st' := [rv (F (F (pg_) (4 : Int)) (k))]) rfl (jl_rvn gL2_3) ?_
                  refine jx_ld (pc' := 83) (l' := L2) (st' := [rv (F (F (pg_) (4 : Int)) (k)), rv (F (F (pg_) (4 : Int)) (k))]) rfl (jl_rvn gL2_3) ?_
                  refine cx_gr (pc' := 86) (c := 6) (q := 12) (v := F (F (F (pg_) (4 : Int)) (k)) (12 : Int)) rfl rfl (by decide) (by decide) rfl rfl ho56.1 ho56.2 ((show F81 (F (F (pg_) (4 : Int)) (k)) (12 : Int) = Fx2 (F (F (pg_) (4 : Int)) (k)) (12 : Int) from hM83 _ _ ho56.1 (own_z ho56.1) (by rw [ho56.2]; rfl)).trans (show Fx2 (F (F (pg_) (4 : Int)) (k)) (12 : Int) = F (F (F (pg_) (4 : Int)) (k)) (12 : Int) from hMx2 _ _ ho56.1 (own_z ho56.1) (by rw [ho56.2]; rfl))) ?_
                  refine cx_gi (pc' := 89) (c := 7) (q := 11) (v := F81 (F (F (F (pg_) (4 : Int)) (k)) (12 : Int)) (11 : Int)) rfl rfl (by decide) (by decide) (Or.inl rfl) rfl ho64.1 ho64.2 rfl ?_
                  have b85 : (-2147483648 : Int) ≤ F81 (F (F (F (pg_) (4 : Int)) (k)) (12 : Int)) (11 : Int) ∧ F81 (F (F (F (pg_) (4 : Int)) (k)) (12 : Int)) (11 : Int) ≤ 2147483647 := by have z := HC_i (c := 7) (q := 11) hC82 ho64.1 ho64.2 (by decide) rfl; rw [show F81 (F (F (F (pg_) (4 : Int)) (k)) (12 : Int)) ((11 : Nat) : Int) = F81 (F (F (F (pg_) (4 : Int)) (k)) (12 : Int)) (11 : Int) from rfl] at z; exact z
                  refine cx_pi (pc' := 92) (c := 6) (q := 3) (qi := (3 : Int)) (z := F81 (F (F (F (pg_) (4 : Int)) (k)) (12 : Int)) (11 : Int)) rfl rfl (by decide) (by decide) rfl rfl rfl (by decide) rfl ho56.1 ho56.2 rfl ?_
                  obtain ⟨F86, eF86⟩ : ∃ q, q = uF F81 (F (F (pg_) (4 : Int)) (k)) (3 : Int) (F81 (F (F (F (pg_) (4 : Int)) (k)) (12 : Int)) (11 : Int)) := ⟨_, rfl⟩
                  rw [← eF86]
                  have hC87 : HC 0 m tg ln F86 := by rw [eF86]; exact HC_fi (c := 6) (q := 3) hC82 ho56.2 (by decide) rfl (by omega) (by omega) ⟨fun w => absurd w (by decide), fun w => absurd w (by decide)⟩
                  have hM88 : Fq 0 [(4, 0), (7, 3), (7, 4), (7, 5), (8, 10), (8, 11), (8, 12), (10, 0), (10, 1), (10, 2)] m tg F F86 := by rw [eF86]; exact Fq_p hM84 ho56.2 (fun _ => rfl) rfl
                  refine jx_ld (pc' := 93) (l' := L2) (st' := [rv (F (F (pg_) (4 : Int)) (k))]) rfl (jl_rvn gL2_3) ?_
                  refine jx_ld (pc' := 94) (l' := L2) (st' := [rv (F (F (pg_) (4 : Int)) (k)), rv (F (F (pg_) (4 : Int)) (k))]) rfl (jl_rvn gL2_3) ?_
                  refine cx_gr (pc' := 97) (c := 6) (q := 12) (v := F (F (F (pg_) (4 : Int)) (k)) (12 : Int)) rfl rfl (by decide) (by decide) rfl rfl ho56.1 ho56.2 ((show F86 (F (F (pg_) (4 : Int)) (k)) (12 : Int) = F81 (F (F (pg_) (4 : Int)) (k)) (12 : Int) from by rw [eF86]; exact uF_j (by decide)).trans ((show F81 (F (F (pg_) (4 : Int)) (k)) (12 : Int) = Fx2 (F (F (pg_) (4 : Int)) (k)) (12 : Int) from hM83 _ _ ho56.1 (own_z ho56.1) (by rw [ho56.2]; rfl)).trans (show Fx2 (F (F (pg_) (4 : Int)) (k)) (12 : Int) = F (F (F (pg_) (4 : Int)) (k)) (12 : Int) from hMx2 _ _ ho56.1 (own_z ho56.1) (by rw [ho56.2]; rfl)))) ?_
                  refine cx_gi (pc' := 100) (c := 7) (q := 12) (v := F81 (F (F (F (pg_) (4 : Int)) (k)) (12 : Int)) (12 : Int)) rfl rfl (by decide) (by decide) (Or.inl rfl) rfl ho64.1 ho64.2 (show F86 (F (F (F (pg_) (4 : Int)) (k)) (12 : Int)) (12 : Int) = F81 (F (F (F (pg_) (4 : Int)) (k)) (12 : Int)) (12 : Int) from by rw [eF86]; exact uF_j (by decide)) ?_
                  have b89 : (-2147483648 : Int) ≤ F81 (F (F (F (pg_) (4 : Int)) (k)) (12 : Int)) (12 : Int) ∧ F81 (F (F (F (pg_) (4 : Int)) (k)) (12 : Int)) (12 : Int) ≤ 2147483647 := by have z := HC_i (c := 7) (q := 12) hC87 ho64.1 ho64.2 (by decide) rfl; rw [show F86 (F (F (F (pg_) (4 : Int)) (k)) (12 : Int)) ((12 : Nat) : Int) = F81 (F (F (F (pg_) (4 : Int)) (k)) (12 : Int)) (12 : Int) from (show F86 (F (F (F (pg_) (4 : Int)) (k)) (12 : Int)) (12 : Int) = F81 (F (F (F (pg_) (4 : Int)) (k)) (12 : Int)) (12 : Int) from by rw [eF86]; exact uF_j (by decide))] at z; exact z
                  refine cx_pi (pc' := 103) (c := 6) (q := 4) (qi := (4 : Int)) (z := F81 (F (F (F (pg_) (4 : Int)) (k)) (12 : Int)) (12 : Int)) rfl rfl (by decide) (by decide) rfl rfl rfl (by decide) rfl ho56.1 ho56.2 rfl ?_
                  obtain ⟨F90, eF90⟩ : ∃ q, q = uF F86 (F (F (pg_) (4 : Int)) (k)) (4 : Int) (F81 (F (F (F (pg_) (4 : Int)) (k)) (12 : Int)) (12 : Int)) := ⟨_, rfl⟩
                  rw [← eF90]
                  have hC91 : HC 0 m tg ln F90 := by rw [eF90]; exact HC_fi (c := 6) (q := 4) hC87 ho56.2 (by decide) rfl (by omega) (by omega) ⟨fun w => absurd w (by decide), fun w => absurd w (by decide)⟩
                  have hM92 : Fq 0 [(4, 0), (7, 3), (7, 4), (7, 5), (8, 10), (8, 11), (8, 12), (10, 0), (10, 1), (10, 2)] m tg F F90 := by rw [eF90]; exact Fq_p hM88 ho56.2 (fun _ => rfl) rfl
                  refine jx_ld (pc' := 104) (l' := L2) (st' := [rv (pg_)]) rfl (jl_rvn gL2_1) ?_
                  refine jx_ld (pc' := 105) (l' := L2) (st' := [rv (F (F (pg_) (4 : Int)) (k)), rv (pg_)]) rfl (jl_rvn gL2_3) ?_
                  refine cx_gr (pc' := 108) (c := 6) (q := 12) (v := F (F (F (pg_) (4 : Int)) (k)) (12 : Int)) rfl rfl (by decide) (by decide) rfl rfl ho56.1 ho56.2 ((show F90 (F (F (pg_) (4 : Int)) (k)) (12 : Int) = F86 (F (F (pg_) (4 : Int)) (k)) (12 : Int) from by rw [eF90]; exact uF_j (by decide)).trans ((show F86 (F (F (pg_) (4 : Int)) (k)) (12 : Int) = F81 (F (F (pg_) (4 : Int)) (k)) (12 : Int) from by rw [eF86]; exact uF_j (by decide)).trans ((show F81 (F (F (pg_) (4 : Int)) (k)) (12 : Int) = Fx2 (F (F (pg_) (4 : Int)) (k)) (12 : Int) from hM83 _ _ ho56.1 (own_z ho56.1) (by rw [ho56.2]; rfl)).trans (show Fx2 (F (F (pg_) (4 : Int)) (k)) (12 : Int) = F (F (F (pg_) (4 : Int)) (k)) (12 : Int) from hMx2 _ _ ho56.1 (own_z ho56.1) (by rw [ho56.2]; rfl))))) ?_
                  refine cx_st (st := []) (as := [rv (pg_), rv (F (F (F (pg_) (4 : Int)) (k)) (12 : Int))]) rfl rfl rfl ⟨rfl, (Nat.le_of_ble_eq_true rfl)⟩ rfl (k_LLayout_judge (dd := d) (R := R) (m := m) (tg := tg) (ln := ln) (F := F90) (pg := pg_) (bd := F (F (F (pg_) (4 : Int)) (k)) (12 : Int)) (hd := by omega) (hC := hC91) (o_pg := o_pg_) (t_pg := t_pg_) (o_bd := ho64.1) (t_bd := ho64.2)) (fun o V' hq => ?_)
                  obtain ⟨F93, rfl, rfl, hC94, hM95, -⟩ := hq
                  have hM96 : Fq 0 [(4, 0), (7, 3), (7, 4), (7, 5), (8, 10), (8, 11), (8, 12), (10, 0), (10, 1), (10, 2)] m tg F F93 := Fq_t (ln := ln) (ln1 := ln) hM92 Ex_r hM95 (by decide) (Or.inl rfl)
                  refine Or.inl ⟨rfl, ?_⟩
                  refine jx_inc (pc' := 114) (l' := jSto1 L2 2 (.int (i32 (k + (1))))) (x := k) rfl gL2_2 (by decide) rfl rfl ?_
                  obtain ⟨L97, eL97⟩ : ∃ q : jL, q = jSto1 L2 2 (.int (i32 ((k + (1))))) := ⟨_, rfl⟩
                  rw [← eL97]
                  have g98 : jGet L97 0 = some (rv (me)) := eL97 ▸ jg_nr (by decide) gL2_0
                  have g99 : jGet L97 1 = some (rv (pg_)) := eL97 ▸ jg_nr (by decide) gL2_1
                  have g100 : jGet L97 3 = some (rv (F (F (pg_) (4 : Int)) (k))) := eL97 ▸ jg_nr (by decide) gL2_3
                  have g101 : jGet L97 4 = some (.int (i32 (wd))) := eL97 ▸ jg_ne (by decide) gL2_4 rfl
                  have g102 : jGet L97 5 = some (rv (pa)) := eL97 ▸ jg_nr (by decide) gL2_5
                  have g103 : jGet L97 2 = some (.int (i32 ((k + (1))))) := eL97 ▸ jg_eq
                  clear eL97
                  refine jx_go (tg := 2) rfl rfl ?_
                  exact ih _ (by omega) L97 F93 ((k + (1))) rfl g98 g99 g103 hC94 hM96 (by omega) (by omega)
                · have _q := h80
                  have ho104 : own m (pa) ∧ tg (pa) = 7 := yx2_pa.resolve_left h80
                  refine jx_ld (pc' := 53) (l' := L2) (st' := [rv (pa)]) rfl (jl_rv gL2_5) ?_
                  refine jx_ld (pc' := 55) (l' := L2) (st' := [.int (i32 (wd)), rv (pa)]) rfl (jl_iload gL2_4) ?_
                  refine cx_pi (pc' := 58) (c := 6) (q := 5) (qi := (5 : Int)) (z := wd) rfl rfl (by decide) (by decide) rfl rfl rfl (by decide) rfl ho104.1 ho104.2 rfl ?_
                  obtain ⟨F105, eF105⟩ : ∃ q, q = uF Fx2 (pa) (5 : Int) (wd) := ⟨_, rfl⟩
                  rw [← eF105]
                  have hC106 : HC 0 m tg ln F105 := by rw [eF105]; exact HC_fi (c := 6) (q := 5) hCx2 ho104.2 (by decide) rfl (by omega) (by omega) ⟨fun w => absurd w (by decide), fun w => absurd w (by decide)⟩
                  have hM107 : Fq 0 [(4, 0), (7, 3), (7, 4), (7, 5), (8, 10), (8, 11), (8, 12), (10, 0), (10, 1), (10, 2)] m tg F F105 := by rw [eF105]; exact Fq_p hMx2 ho104.2 (fun _ => rfl) rfl
                  refine jx_inc (pc' := 61) (l' := jSto1 L2 4 (.int (i32 (wd + (1))))) (x := wd) rfl gL2_4 (by decide) rfl rfl ?_
                  obtain ⟨z108, ez108⟩ : ∃ q, q = (i32 ((wd + (1)))).toInt := ⟨_, rfl⟩
                  have bz108 : (-2147483648 : Int) ≤ z108 ∧ z108 ≤ 2147483647 := ez108 ▸ i32_rg _
                  rw [show i32 ((wd + (1))) = i32 z108 by rw [ez108, i32_of]]
                  clear ez108
                  obtain ⟨L109, eL109⟩ : ∃ q : jL, q = jSto1 L2 4 (.int (i32 (z108))) := ⟨_, rfl⟩
                  rw [← eL109]
                  have g110 : jGet L109 0 = some (rv (me)) := eL109 ▸ jg_nr (by decide) gL2_0
                  have g111 : jGet L109 1 = some (rv (pg_)) := eL109 ▸ jg_nr (by decide) gL2_1
                  have g112 : jGet L109 2 = some (.int (i32 (k))) := eL109 ▸ jg_ne (by decide) gL2_2 rfl
                  have g113 : jGet L109 3 = some (rv (F (F (pg_) (4 : Int)) (k))) := eL109 ▸ jg_nr (by decide) gL2_3
                  have g114 : jGet L109 5 = some (rv (pa)) := eL109 ▸ jg_nr (by decide) gL2_5
                  have g115 : jGet L109 4 = some (.int (i32 (z108))) := eL109 ▸ jg_eq
                  clear eL109
                  refine jx_ld (pc' := 63) (l' := L109) (st' := [rv (pa)]) rfl (jl_rv g114) ?_
                  refine cx_gr (pc' := 66) (c := 6) (q := 14) (v := F (pa) (14 : Int)) rfl rfl (by decide) (by decide) rfl rfl ho104.1 ho104.2 ((show F105 (pa) (14 : Int) = Fx2 (pa) (14 : Int) from by rw [eF105]; exact uF_j (by decide)).trans (show Fx2 (pa) (14 : Int) = F (pa) (14 : Int) from hMx2 _ _ ho104.1 (own_z ho104.1) (by rw [ho104.2]; rfl))) ?_
                  have y116 : F (pa) (14 : Int) = 0 ∨ (own m (F (pa) (14 : Int)) ∧ tg (F (pa) (14 : Int)) = 7) := by have z := HC_r (c := 6) (q := 14) hC106 ho104.1 ho104.2 (by decide) rfl; rw [show F105 (pa) ((14 : Nat) : Int) = F (pa) (14 : Int) from ((show F105 (pa) (14 : Int) = Fx2 (pa) (14 : Int) from by rw [eF105]; exact uF_j (by decide)).trans (show Fx2 (pa) (14 : Int) = F (pa) (14 : Int) from hMx2 _ _ ho104.1 (own_z ho104.1) (by rw [ho104.2]; rfl)))] at z; exact z
                  have z117 := mz_a hC c_NT ho104.1 ho104.2
                  refine jx_ld (pc' := 68) (l' := jSto1 L109 5 (rv (F (pa) (14 : Int)))) (st' := []) rfl (js_rv (by decide)) ?_
                  obtain ⟨L118, eL118⟩ : ∃ q : jL, q = jSto1 L109 5 (rv (F (pa) (14 : Int))) := ⟨_, rfl⟩
                  rw [← eL118]
                  have g119 : jGet L118 0 = some (rv (me)) := eL118 ▸ jg_nr (by decide) g110
                  have g120 : jGet L118 1 = some (rv (pg_)) := eL118 ▸ jg_nr (by decide) g111
                  have g121 : jGet L118 2 = some (.int (i32 (k))) := eL118 ▸ jg_ne (by decide) g112 rfl
                  have g122 : jGet L118 3 = some (rv (F (F (pg_) (4 : Int)) (k))) := eL118 ▸ jg_nr (by decide) g113
                  have g123 : jGet L118 4 = some (.int (i32 (z108))) := eL118 ▸ jg_ne (by decide) g115 rfl
                  have g124 : jGet L118 5 = some (rv (F (pa) (14 : Int))) := eL118 ▸ jg_eq
                  clear eL118
                  refine jx_go (tg := 46) rfl rfl ?_
                  exact ih2 _ (by omega) L118 F105 (z108) (F (pa) (14 : Int)) rfl g119 g120 g121 g122 g123 g124 hC106 hM107 (by omega) y116
            exact hin _ L73 Fx (1) (F (F (F (pg_) (4 : Int)) (k)) (13 : Int)) rfl g74 g75 g76 g77 g78 g79 hCx hMx (by omega) y72
set_option maxRecDepth 20000 in
set_option maxHeartbeats 4000000 in
theorem k_LLayout_measure {X : jX} {dd : Nat} {R : Nat → jC} {m : Nat} {tg ln : Int → Int} {F : Int → Int → Int} {me pg_ : Int} (hd : 200 ≤ dd) (hC : HC 0 m tg ln F) (o_me : own m me) (t_me : tg me = 4) (o_pg_ : own m pg_) (t_pg_ : tg pg_ = 10) (c_NT : NT m tg F) (c_PG : PG m tg F) : wk X dd 123 [rv me, rv pg_] (cV R m tg ln F) (fun o V' => ∃ (F' : Int → Int → Int), V' = cV R m tg ln F' ∧ o = .inl none ∧ HC 0 m tg ln F' ∧ Fq 0 [(4, 0), (7, 3), (7, 4), (7, 5), (8, 10), (8, 11), (8, 12), (10, 0), (10, 1), (10, 2)] m tg F F' ∧ True) := by
  obtain ⟨d, rfl⟩ : ∃ d, dd = d + 1 := ⟨dd - 1, by omega⟩
  refine wk_of (e := jm123) rfl (by rw [jS_r, jS_r, jS_0]; exact Nat.le_of_ble_eq_true rfl) ?_
  rw [la_r, la_r, la_0]
  show wj X d jm123 (0, [(0, rv (me)), (1, rv (pg_))], [], cV R m tg ln F) _
  have hM0 : Fq 0 [(4, 0), (7, 3), (7, 4), (7, 5), (8, 10), (8, 11), (8, 12), (10, 0), (10, 1), (10, 2)] m tg F F := Fq_r
  obtain ⟨L0, eL0⟩ : ∃ q : jL, q = [(0, rv (me)), (1, rv (pg_))] := ⟨_, rfl⟩
  rw [← eL0]
  have g125 : jGet L0 0 = some (rv (me)) := eL0 ▸ (rfl : jGet [(0, rv (me)), (1, rv (pg_))] 0 = some (rv (me)))
  have g126 : jGet L0 1 = some (rv (pg_)) := eL0 ▸ (rfl : jGet [(0, rv (me)), (1, rv (pg_))] 1 = some (rv (pg_)))
  clear eL0
  refine jx_ar (pc' := 1) (st' := [.int (i32 (0))]) rfl rfl rfl rfl ?_
  refine jx_ld (pc' := 2) (l' := jSto1 L0 2 (.int (i32 (0)))) (st' := []) rfl rfl ?_
  obtain ⟨L127, eL127⟩ : ∃ q : jL, q = jSto1 L0 2 (.int (i32 (0))) := ⟨_, rfl⟩
  rw [← eL127]
  have g128 : jGet L127 0 = some (rv (me)) := eL127 ▸ jg_nr (by decide) g125
  have g129 : jGet L127 1 = some (rv (pg_)) := eL127 ▸ jg_nr (by decide) g126
  have g130 : jGet L127 2 = some (.int (i32 (0))) := eL127 ▸ jg_eq
  clear eL127
  exact k_LLayout_measure_at_2 (X := X) (d := d) (R := R) (m := m) (tg := tg) (ln := ln) (F := F) (me := me) (pg_ := pg_) (hd := hd) (hC := hC) (o_me := o_me) (t_me := t_me) (o_pg_ := o_pg_) (t_pg_ := t_pg_) (c_NT := c_NT) (c_PG := c_PG) _ L127 F (0) rfl g128 g129 g130 hC hM0 (by omega) (by omega)
set_option maxRecDepth 20000 in
set_option maxHeartbeats 4000000 in
theorem k_LCoder_translate_at_193 {X : jX} {kk : Nat} {d : Nat} {R : Nat → jC} {m : Nat} {tg ln : Int → Int} {F : Int → Int → Int} {me pg_ rt : Int} (hd : 200 ≤ d + 1) (hC : HC 0 m tg ln F) (o_me : own m me) (t_me : tg me = 2) (o_pg_ : own m pg_) (t_pg_ : tg pg_ = 10) (o_rt : own m rt) (t_rt : tg rt = 8) (p_0 : kk = 60) (c_NT : NT m tg F) (c_PG : PG m tg F) (n_rt : SN m tg F rt (kk)) : ∀ (mm : Nat) (L : jL) (Fx : Int → Int → Int) (k : Int), (1000000 - k).toNat = mm → jGet L 0 = some (rv (me)) → jGet L 1 = some (rv (pg_)) → jGet L 2 = some (rv (rt)) → jGet L 3 = some (.int (i32 k)) → HC 0 m tg ln Fx → Fq 0 [(2, 7), (2, 8), (2, 9), (2, 10), (2, 11), (7, 6), (7, 9), (7, 10), (20, -5), (21, -5)] m tg F Fx → ((-2147483648 : Int) ≤ k ∧ k ≤ 2147483647) → (0 ≤ k) → (k ≤ 1000000) → wj X d jm43 (193, L, [], cV R m tg ln Fx) (fun o V' => ∃ (F' : Int → Int → Int), V' = cV R m tg ln F' ∧ o = .inl none ∧ HC 0 m tg ln F' ∧ Fq 0 [(2, 7), (2, 8), (2, 9), (2, 10), (2, 11), (7, 6), (7, 9), (7, 10), (20, -5), (21, -5)] m tg F F' ∧ True) := by
  intro mm
  induction mm using Nat.strongRecOn with
  | ind mm ih =>
    intro L Fx k hmm gL_0 gL_1 gL_2 gL_3 hCx hMx rx_k iv_0 iv_1
    have k1 := SN_p n_rt (own_z o_rt)
    refine jx_ld (pc' := 194) (l' := L) (st' := [.int (i32 (k))]) rfl (jl_iloadn gL_3) ?_
    refine jx_hp (pc' := 196) (st' := [.int (i32 (1000000)), .int (i32 (k))]) rfl rfl rfl rfl rfl rfl ?_
    refine jx_icmp_ge (pc' := 199) (tg := 222) rfl rfl rfl (by omega) (by omega) (by decide) (by decide) (fun h2 => ?_) (fun h2 => ?_)
    · have _q := h2
      refine jx_rt (v := none) rfl rfl rfl rfl rfl rfl ?_
      exact ⟨Fx, rfl, rfl, hCx, hMx, trivial⟩
    · have _q := h2
      refine jx_ld (pc' := 200) (l' := L) (st' := [rv (me)]) rfl (jl_rvn gL_0) ?_
      refine cx_gi (pc' := 203) (c := 1) (q := 11) (v := Fx (me) (11 : Int)) rfl rfl (by decide) (by decide) (Or.inr rfl) rfl o_me t_me rfl ?_
      have b3 : (0 : Int) ≤ Fx (me) (11 : Int) ∧ Fx (me) (11 : Int) ≤ 1 := by have z := HC_i (c := 1) (q := 11) hCx o_me t_me (by decide) rfl; rw [show Fx (me) ((11 : Nat) : Int) = Fx (me) (11 : Int) from rfl] at z; exact z
      refine jx_if_ne (pc' := 206) (tg := 222) rfl rfl rfl (by omega) (by omega) (fun h4 => ?_) (fun h4 => ?_)
      · have _q := h4
        refine jx_rt (v := none) rfl rfl rfl rfl rfl rfl ?_
        exact ⟨Fx, rfl, rfl, hCx, hMx, trivial⟩
      · have _q := h4
        refine jx_ld (pc' := 207) (l' := L) (st' := [rv (me)]) rfl (jl_rvn gL_0) ?_
        refine cx_vi (c := 1) (a := me) (st := []) (as := []) rfl rfl rfl o_me t_me (by decide) rfl ⟨rfl, rfl, (Nat.le_of_ble_eq_true rfl)⟩ rfl (k_LCoder_lengthen (dd := d) (R := R) (m := m) (tg := tg) (ln := ln) (F := Fx) (me := me) (hd := by omega) (hC := hCx) (o_me := o_me) (t_me := t_me)) (fun o V' hq => ?_)
        obtain ⟨F5, r6, rfl, rfl, hC7, hM8, b9, -⟩ := hq
        have hM10 : Fq 0 [(2, 7), (2, 8), (2, 9), (2, 10), (2, 11), (7, 6), (7, 9), (7, 10), (20, -5), (21, -5)] m tg F F5 := Fq_t (ln := ln) (ln1 := ln) hMx Ex_r hM8 (by decide) (Or.inl rfl)
        refine Or.inr (Or.inl ⟨_, rfl, ?_⟩)
        refine jx_if_ne (pc' := 213) (tg := 216) rfl rfl rfl (by omega) (by omega) (fun h11 => ?_) (fun h11 => ?_)
        · have _q := h11
          refine jx_inc (pc' := 219) (l' := jSto1 L 3 (.int (i32 (k + (1))))) (x := k) rfl gL_3 (by decide) rfl rfl ?_
          obtain ⟨L12, eL12⟩ : ∃ q : jL, q = jSto1 L 3 (.int (i32 ((k + (1))))) := ⟨_, rfl⟩
          rw [← eL12]
          have g13 : jGet L12 0 = some (rv (me)) := eL12 ▸ jg_nr (by decide) gL_0
          have g14 : jGet L12 1 = some (rv (pg_)) := eL12 ▸ jg_nr (by decide) gL_1
          have g15 : jGet L12 2 = some (rv (rt)) := eL12 ▸ jg_nr (by decide) gL_2
          have g16 : jGet L12 3 = some (.int (i32 ((k + (1))))) := eL12 ▸ jg_eq
          clear eL12
          refine jx_go (tg := 193) rfl rfl ?_
          exact ih _ (by omega) L12 F5 ((k + (1))) rfl g13 g14 g15 g16 hC7 hM10 (by omega) (by omega) (by omega)
        · have _q := h11
          refine jx_go (tg := 222) rfl rfl ?_
          refine jx_rt (v := none) rfl rfl rfl rfl rfl rfl ?_
          exact ⟨F5, rfl, rfl, hC7, hM10, trivial⟩
set_option maxRecDepth 20000 in
set_option maxHeartbeats 4000000 in
theorem k_LCoder_translate_at_147 {X : jX} {kk : Nat} {d : Nat} {R : Nat → jC} {m : Nat} {tg ln : Int → Int} {F : Int → Int → Int} {me pg_ rt : Int} (hd : 200 ≤ d + 1) (hC : HC 0 m tg ln F) (o_me : own m me) (t_me : tg me = 2) (o_pg_ : own m pg_) (t_pg_ : tg pg_ = 10) (o_rt : own m rt) (t_rt : tg rt = 8) (p_0 : kk = 60) (c_NT : NT m tg F) (c_PG : PG m tg F) (n_rt : SN m tg F rt (kk)) : ∀ (mm : Nat) (L : jL) (Fx : Int → Int → Int) (k : Int), (6000 - k).toNat = mm → jGet L 0 = some (rv (me)) → jGet L 1 = some (rv (pg_)) → jGet L 2 = some (rv (rt)) → jGet L 3 = some (.int (i32 k)) → HC 0 m tg ln Fx → Fq 0 [(2, 7), (2, 8), (2, 9), (2, 10), (2, 11), (7, 6), (7, 9), (7, 10), (20, -5), (21, -5)] m tg F Fx → ((-2147483648 : Int) ≤ k ∧ k ≤ 2147483647) → (0 ≤ k) → wj X d jm43 (147, L, [], cV R m tg ln Fx) (fun o V' => ∃ (F' : Int → Int → Int), V' = cV R m tg ln F' ∧ o = .inl none ∧ HC 0 m tg ln F' ∧ Fq 0 [(2, 7), (2, 8), (2, 9), (2, 10), (2, 11), (7, 6), (7, 9), (7, 10), (20, -5), (21, -5)] m tg F F' ∧ True) := by
  intro mm
  induction mm using Nat.strongRecOn with
  | ind mm ih =>
    intro L Fx k hmm gL_0 gL_1 gL_2 gL_3 hCx hMx rx_k iv_0
    have k17 := SN_p n_rt (own_z o_rt)
    refine jx_ld (pc' := 148) (l' := L) (st' := [.int (i32 (k))]) rfl (jl_iloadn gL_3) ?_
    refine jx_ld (pc' := 149) (l' := L) (st' := [rv (me), .int (i32 (k))]) rfl (jl_rvn gL_0) ?_
    refine cx_gi (pc' := 152) (c := 1) (q := 7) (v := Fx (me) (7 : Int)) rfl rfl (by decide) (by decide) (Or.inl rfl) rfl o_me t_me rfl ?_
    have b18 : (0 : Int) ≤ Fx (me) (7 : Int) ∧ Fx (me) (7 : Int) ≤ 6000 := by have z := HC_i (c := 1) (q := 7) hCx o_me t_me (by decide) rfl; rw [show Fx (me) ((7 : Nat) : Int) = Fx (me) (7 : Int) from rfl] at z; exact z
    refine jx_icmp_ge (pc' := 155) (tg := 191) rfl rfl rfl (by omega) (by omega) (by omega) (by omega) (fun h19 => ?_) (fun h19 => ?_)
    · have _q := h19
      refine jx_ar (pc' := 192) (st' := [.int (i32 (0))]) rfl rfl rfl rfl ?_
      refine jx_ld (pc' := 193) (l' := jSto1 L 3 (.int (i32 (0)))) (st' := []) rfl rfl ?_
      obtain ⟨L20, eL20⟩ : ∃ q : jL, q = jSto1 L 3 (.int (i32 (0))) := ⟨_, rfl⟩
      rw [← eL20]
      have g21 : jGet L20 0 = some (rv (me)) := eL20 ▸ jg_nr (by decide) gL_0
      have g22 : jGet L20 1 = some (rv (pg_)) := eL20 ▸ jg_nr (by decide) gL_1
      have g23 : jGet L20 2 = some (rv (rt)) := eL20 ▸ jg_nr (by decide) gL_2
      have g24 : jGet L20 3 = some (.int (i32 (0))) := eL20 ▸ jg_eq
      clear eL20
      exact k_LCoder_translate_at_193 (X := X) (kk := kk) (d := d) (R := R) (m := m) (tg := tg) (ln := ln) (F := F) (me := me) (pg_ := pg_) (rt := rt) (hd := hd) (hC := hC) (o_me := o_me) (t_me := t_me) (o_pg_ := o_pg_) (t_pg_ := t_pg_) (o_rt := o_rt) (t_rt := t_rt) (p_0 := p_0) (c_NT := c_NT) (c_PG := c_PG) (n_rt := n_rt) _ L20 Fx (0) rfl g21 g22 g23 g24 hCx hMx (by omega) (by omega) (by omega)
    · have _q := h19
      refine jx_ld (pc' := 156) (l' := L) (st' := [rv (me)]) rfl (jl_rvn gL_0) ?_
      refine cx_gr (pc' := 159) (c := 1) (q := 4) (v := F (me) (4 : Int)) rfl rfl (by decide) (by decide) rfl rfl o_me t_me (show Fx (me) (4 : Int) = F (me) (4 : Int) from hMx _ _ o_me (own_z o_me) (by rw [t_me]; rfl)) ?_
      have y25 : own m (F (me) (4 : Int)) ∧ tg (F (me) (4 : Int)) = 20 ∧ ((6000 : Int) ≠ 0 → ln (F (me) (4 : Int)) = 6000) := by have z := HC_n (c := 1) (q := 4) hCx o_me t_me (own_z o_me) (by decide) rfl; rw [show Fx (me) ((4 : Nat) : Int) = F (me) (4 : Int) from (show Fx (me) (4 : Int) = F (me) (4 : Int) from hMx _ _ o_me (own_z o_me) (by rw [t_me]; rfl))] at z; exact ⟨z.1, z.2.1, z.2.2.1⟩
      have ly25 : ln (F (me) (4 : Int)) = 6000 := y25.2.2 (by decide)
      refine jx_ld (pc' := 160) (l' := L) (st' := [.int (i32 (k)), rv (F (me) (4 : Int))]) rfl (jl_iloadn gL_3) ?_
      refine jx_ld (pc' := 161) (l' := L) (st' := [rv (me), .int (i32 (k)), rv (F (me) (4 : Int))]) rfl (jl_rvn gL_0) ?_
      refine cx_gr (pc' := 164) (c := 1) (q := 2) (v := F (me) (2 : Int)) rfl rfl (by decide) (by decide) rfl rfl o_me t_me (show Fx (me) (2 : Int) = F (me) (2 : Int) from hMx _ _ o_me (own_z o_me) (by rw [t_me]; rfl)) ?_
      have y26 : own m (F (me) (2 : Int)) ∧ tg (F (me) (2 : Int)) = 21 ∧ ((6000 : Int) ≠ 0 → ln (F (me) (2 : Int)) = 6000) := by have z := HC_n (c := 1) (q := 2) hCx o_me t_me (own_z o_me) (by decide) rfl; rw [show Fx (me) ((2 : Nat) : Int) = F (me) (2 : Int) from (show Fx (me) (2 : Int) = F (me) (2 : Int) from hMx _ _ o_me (own_z o_me) (by rw [t_me]; rfl))] at z; exact ⟨z.1, z.2.1, z.2.2.1⟩
      have ly26 : ln (F (me) (2 : Int)) = 6000 := y26.2.2 (by decide)
      refine jx_ld (pc' := 165) (l' := L) (st' := [.int (i32 (k)), rv (F (me) (2 : Int)), .int (i32 (k)), rv (F (me) (4 : Int))]) rfl (jl_iloadn gL_3) ?_
      have b27 := HC_l hCx y26.1 y26.2.1 (by decide)
      refine cx_ial (pc' := 166) (z := k) rfl rfl y26.1 y26.2.1 (by omega) (by omega) (by omega) ?_
      have b28 : (-2147483648 : Int) ≤ Fx (F (me) (2 : Int)) (k) ∧ Fx (F (me) (2 : Int)) (k) ≤ 2147483647 := by have z := HC_ei (j := k) hCx y26.1 (by rw [y26.2.1]; decide) (by omega); exact z
      refine jx_ar (pc' := 167) (st' := [.int (i32 (-1)), .int (i32 (Fx (F (me) (2 : Int)) (k))), .int (i32 (k)), rv (F (me) (4 : Int))]) rfl rfl rfl rfl ?_
      refine jx_icmp_ne (pc' := 170) (tg := 182) rfl rfl rfl (by omega) (by omega) (by decide) (by decide) (fun h29 => ?_) (fun h29 => ?_)
      · have _q := h29
        refine jx_ar (pc' := 183) (st' := [.int (i32 (1)), .int (i32 (k)), rv (F (me) (4 : Int))]) rfl rfl rfl rfl ?_
        refine cx_i2b (pc' := 184) rfl rfl (fun r30 hr30 kr30 => ?_)
        have qr30 : r30 = 1 := kr30 (by omega) (by omega)
        have b31 := HC_l hCx y25.1 y25.2.1 (by decide)
        refine cx_bas2 (pc' := 185) (z := k) (y := r30) rfl rfl y25.1 y25.2.1 (by omega) (by omega) (by omega) (fun w32 hw32 kw32 => ?_)
        have qw32 : w32 = r30 := kw32 (by omega) (by omega)
        obtain ⟨F33, eF33⟩ : ∃ q, q = uF Fx (F (me) (4 : Int)) (k) (w32) := ⟨_, rfl⟩
        rw [← eF33]
        have hC34 : HC 0 m tg ln F33 := by rw [eF33]; exact HC_pi hCx y25.1 y25.2.1 (by decide) (by omega) (by rw [(show Fx (F (me) (4 : Int)) (-1) = 3 by have z := HC_n (c := 1) (q := 4) hCx o_me t_me (own_z o_me) (by decide) rfl; rw [show Fx (me) ((4 : Nat) : Int) = F (me) (4 : Int) from (show Fx (me) (4 : Int) = F (me) (4 : Int) from hMx _ _ o_me (own_z o_me) (by rw [t_me]; rfl))] at z; exact z.2.2.2 (by decide))]; exact ⟨(by show (0 : Int) ≤ _; omega), (by show _ ≤ (127 : Int); omega)⟩)
        have hM35 : Fq 0 [(2, 7), (2, 8), (2, 9), (2, 10), (2, 11), (7, 6), (7, 9), (7, 10), (20, -5), (21, -5)] m tg F F33 := by rw [eF33]; exact Fq_p hMx y25.2.1 (fun _ => rfl) (inL_a rfl (by omega) rfl)
        refine jx_inc (pc' := 188) (l' := jSto1 L 3 (.int (i32 (k + (1))))) (x := k) rfl gL_3 (by decide) rfl rfl ?_
        obtain ⟨L36, eL36⟩ : ∃ q : jL, q = jSto1 L 3 (.int (i32 ((k + (1))))) := ⟨_, rfl⟩
        rw [← eL36]
        have g37 : jGet L36 0 = some (rv (me)) := eL36 ▸ jg_nr (by decide) gL_0
        have g38 : jGet L36 1 = some (rv (pg_)) := eL36 ▸ jg_nr (by decide) gL_1
        have g39 : jGet L36 2 = some (rv (rt)) := eL36 ▸ jg_nr (by decide) gL_2
        have g40 : jGet L36 3 = some (.int (i32 ((k + (1))))) := eL36 ▸ jg_eq
        clear eL36
        refine jx_go (tg := 147) rfl rfl ?_
        exact ih _ (by omega) L36 F33 ((k + (1))) rfl g37 g38 g39 g40 hC34 hM35 (by omega) (by omega)
      · have _q := h29
        refine jx_ld (pc' := 171) (l' := L) (st' := [rv (me), .int (i32 (k)), rv (F (me) (4 : Int))]) rfl (jl_rvn gL_0) ?_
        refine cx_gr (pc' := 174) (c := 1) (q := 1) (v := F (me) (1 : Int)) rfl rfl (by decide) (by decide) rfl rfl o_me t_me (show Fx (me) (1 : Int) = F (me) (1 : Int) from hMx _ _ o_me (own_z o_me) (by rw [t_me]; rfl)) ?_
        have y41 : own m (F (me) (1 : Int)) ∧ tg (F (me) (1 : Int)) = 21 ∧ ((6000 : Int) ≠ 0 → ln (F (me) (1 : Int)) = 6000) := by have z := HC_n (c := 1) (q := 1) hCx o_me t_me (own_z o_me) (by decide) rfl; rw [show Fx (me) ((1 : Nat) : Int) = F (me) (1 : Int) from (show Fx (me) (1 : Int) = F (me) (1 : Int) from hMx _ _ o_me (own_z o_me) (by rw [t_me]; rfl))] at z; exact ⟨z.1, z.2.1, z.2.2.1⟩
        have ly41 : ln (F (me) (1 : Int)) = 6000 := y41.2.2 (by decide)
        refine jx_ld (pc' := 175) (l' := L) (st' := [.int (i32 (k)), rv (F (me) (1 : Int)), .int (i32 (k)), rv (F (me) (4 : Int))]) rfl (jl_iloadn gL_3) ?_
        have b42 := HC_l hCx y41.1 y41.2.1 (by decide)
        refine cx_ial (pc' := 176) (z := k) rfl rfl y41.1 y41.2.1 (by omega) (by omega) (by omega) ?_
        have b43 : (-2147483648 : Int) ≤ Fx (F (me) (1 : Int)) (k) ∧ Fx (F (me) (1 : Int)) (k) ≤ 2147483647 := by have z := HC_ei (j := k) hCx y41.1 (by rw [y41.2.1]; decide) (by omega); exact z
        refine cx_st (st := [.int (i32 (k)), rv (F (me) (4 : Int))]) (as := [.int (i32 (Fx (F (me) (1 : Int)) (k)))]) rfl rfl rfl ⟨rfl, (by rw [jS_i, jS_r, jS_0]; exact Nat.le_of_ble_eq_true rfl)⟩ rfl (k_LCoder_lengthOf (dd := d) (R := R) (m := m) (tg := tg) (ln := ln) (F := Fx) (op := Fx (F (me) (1 : Int)) (k)) (hd := by omega) (hC := hCx) (h_op := by omega)) (fun o V' hq => ?_)
        obtain ⟨r44, rfl, rfl, b45, -⟩ := hq
        refine Or.inr (Or.inl ⟨_, rfl, ?_⟩)
        refine jx_go (tg := 183) rfl rfl ?_
        refine cx_i2b (pc' := 184) rfl rfl (fun r46 hr46 kr46 => ?_)
        have qr46 : r46 = r44 := kr46 (by omega) (by omega)
        have b47 := HC_l hCx y25.1 y25.2.1 (by decide)
        refine cx_bas2 (pc' := 185) (z := k) (y := r46) rfl rfl y25.1 y25.2.1 (by omega) (by omega) (by omega) (fun w48 hw48 kw48 => ?_)
        have qw48 : w48 = r46 := kw48 (by omega) (by omega)
        obtain ⟨F49, eF49⟩ : ∃ q, q = uF Fx (F (me) (4 : Int)) (k) (w48) := ⟨_, rfl⟩
        rw [← eF49]
        have hC50 : HC 0 m tg ln F49 := by rw [eF49]; exact HC_pi hCx y25.1 y25.2.1 (by decide) (by omega) (by rw [(show Fx (F (me) (4 : Int)) (-1) = 3 by have z := HC_n (c := 1) (q := 4) hCx o_me t_me (own_z o_me) (by decide) rfl; rw [show Fx (me) ((4 : Nat) : Int) = F (me) (4 : Int) from (show Fx (me) (4 : Int) = F (me) (4 : Int) from hMx _ _ o_me (own_z o_me) (by rw [t_me]; rfl))] at z; exact z.2.2.2 (by decide))]; exact ⟨(by show (0 : Int) ≤ _; omega), (by show _ ≤ (127 : Int); omega)⟩)
        have hM51 : Fq 0 [(2, 7), (2, 8), (2, 9), (2, 10), (2, 11), (7, 6), (7, 9), (7, 10), (20, -5), (21, -5)] m tg F F49 := by rw [eF49]; exact Fq_p hMx y25.2.1 (fun _ => rfl) (inL_a rfl (by omega) rfl)
        refine jx_inc (pc' := 188) (l' := jSto1 L 3 (.int (i32 (k + (1))))) (x := k) rfl gL_3 (by decide) rfl rfl ?_
        obtain ⟨L52, eL52⟩ : ∃ q : jL, q = jSto1 L 3 (.int (i32 ((k + (1))))) := ⟨_, rfl⟩
        rw [← eL52]
        have g53 : jGet L52 0 = some (rv (me)) := eL52 ▸ jg_nr (by decide) gL_0
        have g54 : jGet L52 1 = some (rv (pg_)) := eL52 ▸ jg_nr (by decide) gL_1
        have g55 : jGet L52 2 = some (rv (rt)) := eL52 ▸ jg_nr (by decide) gL_2
        have g56 : jGet L52 3 = some (.int (i32 ((k + (1))))) := eL52 ▸ jg_eq
        clear eL52
        refine jx_go (tg := 147) rfl rfl ?_
        exact ih _ (by omega) L52 F49 ((k + (1))) rfl g53 g54 g55 g56 hC50 hM51 (by omega) (by omega)
set_option maxRecDepth 20000 in
set_option maxHeartbeats 4000000 in
theorem k_LCoder_translate_at_22 {X : jX} {kk : Nat} {d : Nat} {R : Nat → jC} {m : Nat} {tg ln : Int → Int} {F : Int → Int → Int} {me pg_ rt : Int} (hd : 200 ≤ d + 1) (hC : HC 0 m tg ln F) (o_me : own m me) (t_me : tg me = 2) (o_pg_ : own m pg_) (t_pg_ : tg pg_ = 10) (o_rt : own m rt) (t_rt : tg rt = 8) (p_0 : kk = 60) (c_NT : NT m tg F) (c_PG : PG m tg F) (n_rt : SN m tg F rt (kk)) : ∀ (mm : Nat) (L : jL) (Fx : Int → Int → Int) (k : Int), (24 - k).toNat = mm → jGet L 0 = some (rv (me)) → jGet L 1 = some (rv (pg_)) → jGet L 2 = some (rv (rt)) → jGet L 3 = some (.int (i32 k)) → HC 0 m tg ln Fx → Fq 0 [(2, 7), (2, 8), (2, 9), (2, 10), (2, 11), (7, 6), (7, 9), (7, 10), (20, -5), (21, -5)] m tg F Fx → ((-2147483648 : Int) ≤ k ∧ k ≤ 2147483647) → (0 ≤ k) → wj X d jm43 (22, L, [], cV R m tg ln Fx) (fun o V' => ∃ (F' : Int → Int → Int), V' = cV R m tg ln F' ∧ o = .inl none ∧ HC 0 m tg ln F' ∧ Fq 0 [(2, 7), (2, 8), (2, 9), (2, 10), (2, 11), (7, 6), (7, 9), (7, 10), (20, -5), (21, -5)] m tg F F' ∧ True) := by
  intro mm
  induction mm using Nat.strongRecOn with
  | ind mm ih =>
    intro L Fx k hmm gL_0 gL_1 gL_2 gL_3 hCx hMx rx_k iv_0
    have k57 := SN_p n_rt (own_z o_rt)
    refine jx_ld (pc' := 23) (l' := L) (st' := [.int (i32 (k))]) rfl (jl_iloadn gL_3) ?_
    refine jx_ld (pc' := 24) (l' := L) (st' := [rv (pg_), .int (i32 (k))]) rfl (jl_rvn gL_1) ?_
    refine cx_gi (pc' := 27) (c := 9) (q := 5) (v := F (pg_) (5 : Int)) rfl rfl (by decide) (by decide) (Or.inl rfl) rfl o_pg_ t_pg_ (show Fx (pg_) (5 : Int) = F (pg_) (5 : Int) from hMx _ _ o_pg_ (own_z o_pg_) (by rw [t_pg_]; rfl)) ?_
    have b58 : (0 : Int) ≤ F (pg_) (5 : Int) ∧ F (pg_) (5 : Int) ≤ 24 := by have z := HC_i (c := 9) (q := 5) hCx o_pg_ t_pg_ (by decide) rfl; rw [show Fx (pg_) ((5 : Nat) : Int) = F (pg_) (5 : Int) from (show Fx (pg_) (5 : Int) = F (pg_) (5 : Int) from hMx _ _ o_pg_ (own_z o_pg_) (by rw [t_pg_]; rfl))] at z; exact z
    refine jx_icmp_ge (pc' := 30) (tg := 118) rfl rfl rfl (by omega) (by omega) (by omega) (by omega) (fun h59 => ?_) (fun h59 => ?_)
    · have _q := h59
      refine jx_ld (pc' := 119) (l' := L) (st' := [rv (me)]) rfl (jl_rvn gL_0) ?_
      refine jx_ld (pc' := 120) (l' := L) (st' := [rv (me), rv (me)]) rfl (jl_rvn gL_0) ?_
      refine cx_vi (c := 1) (a := me) (st := [rv (me)]) (as := []) rfl rfl rfl o_me t_me (by decide) rfl ⟨rfl, rfl, (by rw [jS_r, jS_0]; exact Nat.le_of_ble_eq_true rfl)⟩ rfl (k_LCoder_newLabel (dd := d) (R := R) (m := m) (tg := tg) (ln := ln) (F := Fx) (me := me) (hd := by omega) (hC := hCx) (o_me := o_me) (t_me := t_me)) (fun o V' hq => ?_)
      obtain ⟨F60, r61, rfl, rfl, hC62, hM63, b64, -⟩ := hq
      have hM65 : Fq 0 [(2, 7), (2, 8), (2, 9), (2, 10), (2, 11), (7, 6), (7, 9), (7, 10), (20, -5), (21, -5)] m tg F F60 := Fq_t (ln := ln) (ln1 := ln) hMx Ex_r hM63 (by decide) (Or.inl rfl)
      refine Or.inr (Or.inl ⟨_, rfl, ?_⟩)
      refine cx_pi (pc' := 126) (c := 1) (q := 9) (qi := (9 : Int)) (z := r61) rfl rfl (by decide) (by decide) rfl rfl rfl (by decide) rfl o_me t_me rfl ?_
      obtain ⟨F66, eF66⟩ : ∃ q, q = uF F60 (me) (9 : Int) (r61) := ⟨_, rfl⟩
      rw [← eF66]
      have hC67 : HC 0 m tg ln F66 := by rw [eF66]; exact HC_fi (c := 1) (q := 9) hC62 t_me (by decide) rfl (by omega) (by omega) ⟨fun w => absurd w (by decide), fun w => absurd w (by decide)⟩
      have hM68 : Fq 0 [(2, 7), (2, 8), (2, 9), (2, 10), (2, 11), (7, 6), (7, 9), (7, 10), (20, -5), (21, -5)] m tg F F66 := by rw [eF66]; exact Fq_p hM65 t_me (fun _ => rfl) rfl
      refine jx_ld (pc' := 127) (l' := L) (st' := [rv (me)]) rfl (jl_rvn gL_0) ?_
      refine jx_ld (pc' := 128) (l' := L) (st' := [rv (me), rv (me)]) rfl (jl_rvn gL_0) ?_
      refine cx_gi (pc' := 131) (c := 1) (q := 9) (v := r61) rfl rfl (by decide) (by decide) (Or.inl rfl) rfl o_me t_me (show F66 (me) (9 : Int) = r61 from by rw [eF66]; exact uF_e) ?_
      refine cx_vi (c := 1) (a := me) (st := []) (as := [.int (i32 (r61))]) rfl rfl rfl o_me t_me (by decide) rfl ⟨rfl, rfl, (Nat.le_of_ble_eq_true rfl)⟩ rfl (k_LCoder_here (dd := d) (R := R) (m := m) (tg := tg) (ln := ln) (F := F66) (me := me) (lb := r61) (hd := by omega) (hC := hC67) (o_me := o_me) (t_me := t_me) (h_lb := by omega)) (fun o V' hq => ?_)
      obtain ⟨F69, rfl, rfl, hC70, hM71, -⟩ := hq
      have hM72 : Fq 0 [(2, 7), (2, 8), (2, 9), (2, 10), (2, 11), (7, 6), (7, 9), (7, 10), (20, -5), (21, -5)] m tg F F69 := Fq_t (ln := ln) (ln1 := ln) hM68 Ex_r hM71 (by decide) (Or.inl rfl)
      refine Or.inl ⟨rfl, ?_⟩
      refine jx_ld (pc' := 135) (l' := L) (st' := [rv (me)]) rfl (jl_rvn gL_0) ?_
      refine jx_ld (pc' := 136) (l' := L) (st' := [rv (rt), rv (me)]) rfl (jl_rvn gL_2) ?_
      refine cx_vi (c := 1) (a := me) (st := []) (as := [rv (rt)]) rfl rfl rfl o_me t_me (by decide) rfl ⟨rfl, rfl, (Nat.le_of_ble_eq_true rfl)⟩ rfl (CPx_all X (kk) (dd := d) (R := R) (m := m) (tg := tg) (ln := ln) (F := F69) (me := me) (p := rt) (hd := by omega) (hC := hC70) (o_me := o_me) (t_me := t_me) (y_p := (Or.inr ⟨o_rt, t_rt⟩)) (c_NT := NT_q hC c_NT hM72 rfl) (n_p := (SN_q (SN_w n_rt (by omega)) hM72 rfl rfl))) (fun o V' hq => ?_)
      obtain ⟨F73, rfl, rfl, hC74, hM75, -⟩ := hq
      have hM76 : Fq 0 [(2, 7), (2, 8), (2, 9), (2, 10), (2, 11), (7, 6), (7, 9), (7, 10), (20, -5), (21, -5)] m tg F F73 := Fq_t (ln := ln) (ln1 := ln) hM72 Ex_r hM75 (by decide) (Or.inl rfl)
      refine Or.inl ⟨rfl, ?_⟩
      refine jx_ld (pc' := 140) (l' := L) (st' := [rv (me)]) rfl (jl_rvn gL_0) ?_
      refine jx_ar (pc' := 142) (st' := [.int (i32 (31)), rv (me)]) rfl rfl rfl rfl ?_
      refine cx_vi (c := 1) (a := me) (st := []) (as := [.int (i32 (31))]) rfl rfl rfl o_me t_me (by decide) rfl ⟨rfl, rfl, (Nat.le_of_ble_eq_true rfl)⟩ rfl (k_LCoder_operation (dd := d) (R := R) (m := m) (tg := tg) (ln := ln) (F := F73) (me := me) (op := 31) (hd := by omega) (hC := hC74) (o_me := o_me) (t_me := t_me) (h_op := by omega)) (fun o V' hq => ?_)
      obtain ⟨F77, rfl, rfl, hC78, hM79, -⟩ := hq
      have hM80 : Fq 0 [(2, 7), (2, 8), (2, 9), (2, 10), (2, 11), (7, 6), (7, 9), (7, 10), (20, -5), (21, -5)] m tg F F77 := Fq_t (ln := ln) (ln1 := ln) hM76 Ex_r hM79 (by decide) (Or.inl rfl)
      refine Or.inl ⟨rfl, ?_⟩
      refine jx_ar (pc' := 146) (st' := [.int (i32 (0))]) rfl rfl rfl rfl ?_
      refine jx_ld (pc' := 147) (l' := jSto1 L 3 (.int (i32 (0)))) (st' := []) rfl rfl ?_
      obtain ⟨L81, eL81⟩ : ∃ q : jL, q = jSto1 L 3 (.int (i32 (0))) := ⟨_, rfl⟩
      rw [← eL81]
      have g82 : jGet L81 0 = some (rv (me)) := eL81 ▸ jg_nr (by decide) gL_0
      have g83 : jGet L81 1 = some (rv (pg_)) := eL81 ▸ jg_nr (by decide) gL_1
      have g84 : jGet L81 2 = some (rv (rt)) := eL81 ▸ jg_nr (by decide) gL_2
      have g85 : jGet L81 3 = some (.int (i32 (0))) := eL81 ▸ jg_eq
      clear eL81
      exact k_LCoder_translate_at_147 (X := X) (kk := kk) (d := d) (R := R) (m := m) (tg := tg) (ln := ln) (F := F) (me := me) (pg_ := pg_) (rt := rt) (hd := hd) (hC := hC) (o_me := o_me) (t_me := t_me) (o_pg_ := o_pg_) (t_pg_ := t_pg_) (o_rt := o_rt) (t_rt := t_rt) (p_0 := p_0) (c_NT := c_NT) (c_PG := c_PG) (n_rt := n_rt) _ L81 F77 (0) rfl g82 g83 g84 g85 hC78 hM80 (by omega) (by omega)
    · have _q := h59
      refine jx_ld (pc' := 31) (l' := L) (st' := [.int (i32 (k))]) rfl (jl_iloadn gL_3) ?_
      refine jx_ld (pc' := 32) (l' := L) (st' := [rv (pg_), .int (i32 (k))]) rfl (jl_rvn gL_1) ?_
      refine cx_gr (pc' := 35) (c := 9) (q := 4) (v := F (pg_) (4 : Int)) rfl rfl (by decide) (by decide) rfl rfl o_pg_ t_pg_ (show Fx (pg_) (4 : Int) = F (pg_) (4 : Int) from hMx _ _ o_pg_ (own_z o_pg_) (by rw [t_pg_]; rfl)) ?_
      have y86 : own m (F (pg_) (4 : Int)) ∧ tg (F (pg_) (4 : Int)) = 25 ∧ ((24 : Int) ≠ 0 → ln (F (pg_) (4 : Int)) = 24) := by have z := HC_n (c := 9) (q := 4) hCx o_pg_ t_pg_ (own_z o_pg_) (by decide) rfl; rw [show Fx (pg_) ((4 : Nat) : Int) = F (pg_) (4 : Int) from (show Fx (pg_) (4 : Int) = F (pg_) (4 : Int) from hMx _ _ o_pg_ (own_z o_pg_) (by rw [t_pg_]; rfl))] at z; exact ⟨z.1, z.2.1, z.2.2.1⟩
      have ly86 : ln (F (pg_) (4 : Int)) = 24 := y86.2.2 (by decide)
      have b87 := HC_l hCx y86.1 y86.2.1 (by decide)
      refine cx_len (pc' := 36) rfl rfl y86.1 (by rw [y86.2.1]; decide) (by omega) ?_
      refine jx_icmp_ge (pc' := 39) (tg := 118) rfl rfl rfl (by omega) (by omega) (by omega) (by omega) (fun h88 => ?_) (fun h88 => ?_)
      · have _q := h88
        refine jx_ld (pc' := 119) (l' := L) (st' := [rv (me)]) rfl (jl_rvn gL_0) ?_
        refine jx_ld (pc' := 120) (l' := L) (st' := [rv (me), rv (me)]) rfl (jl_rvn gL_0) ?_
        refine cx_vi (c := 1) (a := me) (st := [rv (me)]) (as := []) rfl rfl rfl o_me t_me (by decide) rfl ⟨rfl, rfl, (by rw [jS_r, jS_0]; exact Nat.le_of_ble_eq_true rfl)⟩ rfl (k_LCoder_newLabel (dd := d) (R := R) (m := m) (tg := tg) (ln := ln) (F := Fx) (me := me) (hd := by omega) (hC := hCx) (o_me := o_me) (t_me := t_me)) (fun o V' hq => ?_)
        obtain ⟨F89, r90, rfl, rfl, hC91, hM92, b93, -⟩ := hq
        have hM94 : Fq 0 [(2, 7), (2, 8), (2, 9), (2, 10), (2, 11), (7, 6), (7, 9), (7, 10), (20, -5), (21, -5)] m tg F F89 := Fq_t (ln := ln) (ln1 := ln) hMx Ex_r hM92 (by decide) (Or.inl rfl)
        refine Or.inr (Or.inl ⟨_, rfl, ?_⟩)
        refine cx_pi (pc' := 126) (c := 1) (q := 9) (qi := (9 : Int)) (z := r90) rfl rfl (by decide) (by decide) rfl rfl rfl (by decide) rfl o_me t_me rfl ?_
        obtain ⟨F95, eF95⟩ : ∃ q, q = uF F89 (me) (9 : Int) (r90) := ⟨_, rfl⟩
        rw [← eF95]
        have hC96 : HC 0 m tg ln F95 := by rw [eF95]; exact HC_fi (c := 1) (q := 9) hC91 t_me (by decide) rfl (by omega) (by omega) ⟨fun w => absurd w (by decide), fun w => absurd w (by decide)⟩
        have hM97 : Fq 0 [(2, 7), (2, 8), (2, 9), (2, 10), (2, 11), (7, 6), (7, 9), (7, 10), (20, -5), (21, -5)] m tg F F95 := by rw [eF95]; exact Fq_p hM94 t_me (fun _ => rfl) rfl
        refine jx_ld (pc' := 127) (l' := L) (st' := [rv (me)]) rfl (jl_rvn gL_0) ?_
        refine jx_ld (pc' := 128) (l' := L) (st' := [rv (me), rv (me)]) rfl (jl_rvn gL_0) ?_
        refine cx_gi (pc' := 131) (c := 1) (q := 9) (v := r90) rfl rfl (by decide) (by decide) (Or.inl rfl) rfl o_me t_me (show F95 (me) (9 : Int) = r90 from by rw [eF95]; exact uF_e) ?_
        refine cx_vi (c := 1) (a := me) (st := []) (as := [.int (i32 (r90))]) rfl rfl rfl o_me t_me (by decide) rfl ⟨rfl, rfl, (Nat.le_of_ble_eq_true rfl)⟩ rfl (k_LCoder_here (dd := d) (R := R) (m := m) (tg := tg) (ln := ln) (F := F95) (me := me) (lb := r90) (hd := by omega) (hC := hC96) (o_me := o_me) (t_me := t_me) (h_lb := by omega)) (fun o V' hq => ?_)
        obtain ⟨F98, rfl, rfl, hC99, hM100, -⟩ := hq
        have hM101 : Fq 0 [(2, 7), (2, 8), (2, 9), (2, 10), (2, 11), (7, 6), (7, 9), (7, 10), (20, -5), (21, -5)] m tg F F98 := Fq_t (ln := ln) (ln1 := ln) hM97 Ex_r hM100 (by decide) (Or.inl rfl)
        refine Or.inl ⟨rfl, ?_⟩
        refine jx_ld (pc' := 135) (l' := L) (st' := [rv (me)]) rfl (jl_rvn gL_0) ?_
        refine jx_ld (pc' := 136) (l' := L) (st' := [rv (rt), rv (me)]) rfl (jl_rvn gL_2) ?_
        refine cx_vi (c := 1) (a := me) (st := []) (as := [rv (rt)]) rfl rfl rfl o_me t_me (by decide) rfl ⟨rfl, rfl, (Nat.le_of_ble_eq_true rfl)⟩ rfl (CPx_all X (kk) (dd := d) (R := R) (m := m) (tg := tg) (ln := ln) (F := F98) (me := me) (p := rt) (hd := by omega) (hC := hC99) (o_me := o_me) (t_me := t_me) (y_p := (Or.inr ⟨o_rt, t_rt⟩)) (c_NT := NT_q hC c_NT hM101 rfl) (n_p := (SN_q (SN_w n_rt (by omega)) hM101 rfl rfl))) (fun o V' hq => ?_)
        obtain ⟨F102, rfl, rfl, hC103, hM104, -⟩ := hq
        have hM105 : Fq 0 [(2, 7), (2, 8), (2, 9), (2, 10), (2, 11), (7, 6), (7, 9), (7, 10), (20, -5), (21, -5)] m tg F F102 := Fq_t (ln := ln) (ln1 := ln) hM101 Ex_r hM104 (by decide) (Or.inl rfl)
        refine Or.inl ⟨rfl, ?_⟩
        refine jx_ld (pc' := 140) (l' := L) (st' := [rv (me)]) rfl (jl_rvn gL_0) ?_
        refine jx_ar (pc' := 142) (st' := [.int (i32 (31)), rv (me)]) rfl rfl rfl rfl ?_
        refine cx_vi (c := 1) (a := me) (st := []) (as := [.int (i32 (31))]) rfl rfl rfl o_me t_me (by decide) rfl ⟨rfl, rfl, (Nat.le_of_ble_eq_true rfl)⟩ rfl (k_LCoder_operation (dd := d) (R := R) (m := m) (tg := tg) (ln := ln) (F := F102) (me := me) (op := 31) (hd := by omega) (hC := hC103) (o_me := o_me) (t_me := t_me) (h_op := by omega)) (fun o V' hq => ?_)
        obtain ⟨F106, rfl, rfl, hC107, hM108, -⟩ := hq
        have hM109 : Fq 0 [(2, 7), (2, 8), (2, 9), (2, 10), (2, 11), (7, 6), (7, 9), (7, 10), (20, -5), (21, -5)] m tg F F106 := Fq_t (ln := ln) (ln1 := ln) hM105 Ex_r hM108 (by decide) (Or.inl rfl)
        refine Or.inl ⟨rfl, ?_⟩
        refine jx_ar (pc' := 146) (st' := [.int (i32 (0))]) rfl rfl rfl rfl ?_
        refine jx_ld (pc' := 147) (l' := jSto1 L 3 (.int (i32 (0)))) (st' := []) rfl rfl ?_
        obtain ⟨L110, eL110⟩ : ∃ q : jL, q = jSto1 L 3 (.int (i32 (0))) := ⟨_, rfl⟩
        rw [← eL110]
        have g111 : jGet L110 0 = some (rv (me)) := eL110 ▸ jg_nr (by decide) gL_0
        have g112 : jGet L110 1 = some (rv (pg_)) := eL110 ▸ jg_nr (by decide) gL_1
        have g113 : jGet L110 2 = some (rv (rt)) := eL110 ▸ jg_nr (by decide) gL_2
        have g114 : jGet L110 3 = some (.int (i32 (0))) := eL110 ▸ jg_eq
        clear eL110
        exact k_LCoder_translate_at_147 (X := X) (kk := kk) (d := d) (R := R) (m := m) (tg := tg) (ln := ln) (F := F) (me := me) (pg_ := pg_) (rt := rt) (hd := hd) (hC := hC) (o_me := o_me) (t_me := t_me) (o_pg_ := o_pg_) (t_pg_ := t_pg_) (o_rt := o_rt) (t_rt := t_rt) (p_0 := p_0) (c_NT := c_NT) (c_PG := c_PG) (n_rt := n_rt) _ L110 F106 (0) rfl g111 g112 g113 g114 hC107 hM109 (by omega) (by omega)
      · have _q := h88
        refine jx_ld (pc' := 40) (l' := L) (st' := [rv (pg_)]) rfl (jl_rvn gL_1) ?_
        refine cx_gr (pc' := 43) (c := 9) (q := 4) (v := F (pg_) (4 : Int)) rfl rfl (by decide) (by decide) rfl rfl o_pg_ t_pg_ (show Fx (pg_) (4 : Int) = F (pg_) (4 : Int) from hMx _ _ o_pg_ (own_z o_pg_) (by rw [t_pg_]; rfl)) ?_
        refine jx_ld (pc' := 44) (l' := L) (st' := [.int (i32 (k)), rv (F (pg_) (4 : Int))]) rfl (jl_iloadn gL_3) ?_
        refine cx_aal (pc' := 45) (z := k) rfl rfl y86.1 (by rw [y86.2.1]; decide) (by omega) (by omega) (by omega) ?_
        rw [show Fx (F (pg_) (4 : Int)) (k) = F (F (pg_) (4 : Int)) (k) from (show Fx (F (pg_) (4 : Int)) (k) = F (F (pg_) (4 : Int)) (k) from hMx _ _ y86.1 (own_z y86.1) (by rw [y86.2.1]; rfl))]
        have y115 : F (F (pg_) (4 : Int)) (k) = 0 ∨ (own m (F (F (pg_) (4 : Int)) (k)) ∧ tg (F (F (pg_) (4 : Int)) (k)) = 7) := by have z := HC_er (j := k) hCx y86.1 y86.2.1 (by decide) (by omega); rw [show Fx (F (pg_) (4 : Int)) (k) = F (F (pg_) (4 : Int)) (k) from (show Fx (F (pg_) (4 : Int)) (k) = F (F (pg_) (4 : Int)) (k) from hMx _ _ y86.1 (own_z y86.1) (by rw [y86.2.1]; rfl))] at z; exact z
        refine jx_ld (pc' := 47) (l' := jSto1 L 4 (rv (F (F (pg_) (4 : Int)) (k)))) (st' := []) rfl (js_rv (by decide)) ?_
        obtain ⟨L116, eL116⟩ : ∃ q : jL, q = jSto1 L 4 (rv (F (F (pg_) (4 : Int)) (k))) := ⟨_, rfl⟩
        rw [← eL116]
        have g117 : jGet L116 0 = some (rv (me)) := eL116 ▸ jg_nr (by decide) gL_0
        have g118 : jGet L116 1 = some (rv (pg_)) := eL116 ▸ jg_nr (by decide) gL_1
        have g119 : jGet L116 2 = some (rv (rt)) := eL116 ▸ jg_nr (by decide) gL_2
        have g120 : jGet L116 3 = some (.int (i32 (k))) := eL116 ▸ jg_ne (by decide) gL_3 rfl
        have g121 : jGet L116 4 = some (rv (F (F (pg_) (4 : Int)) (k))) := eL116 ▸ jg_eq
        clear eL116
        refine jx_ld (pc' := 49) (l' := L116) (st' := [rv (F (F (pg_) (4 : Int)) (k))]) rfl (jl_rv g121) ?_
        refine cx_nul (pc' := 52) (tg' := 112) rfl rfl rfl (fun h122 => ?_) (fun h122 => ?_)
        · have _q := h122
          refine jx_inc (pc' := 115) (l' := jSto1 L116 3 (.int (i32 (k + (1))))) (x := k) rfl g120 (by decide) rfl rfl ?_
          obtain ⟨L123, eL123⟩ : ∃ q : jL, q = jSto1 L116 3 (.int (i32 ((k + (1))))) := ⟨_, rfl⟩
          rw [← eL123]
          have g124 : jGet L123 0 = some (rv (me)) := eL123 ▸ jg_nr (by decide) g117
          have g125 : jGet L123 1 = some (rv (pg_)) := eL123 ▸ jg_nr (by decide) g118
          have g126 : jGet L123 2 = some (rv (rt)) := eL123 ▸ jg_nr (by decide) g119
          have g127 : jGet L123 4 = some (rv (F (F (pg_) (4 : Int)) (k))) := eL123 ▸ jg_nr (by decide) g121
          have g128 : jGet L123 3 = some (.int (i32 ((k + (1))))) := eL123 ▸ jg_eq
          clear eL123
          refine jx_go (tg := 22) rfl rfl ?_
          exact ih _ (by omega) L123 Fx ((k + (1))) rfl g124 g125 g126 g128 hCx hMx (by omega) (by omega)
        · have _q := h122
          have ho129 : own m (F (F (pg_) (4 : Int)) (k)) ∧ tg (F (F (pg_) (4 : Int)) (k)) = 7 := y115.resolve_left h122
          refine jx_ld (pc' := 54) (l' := L116) (st' := [rv (F (F (pg_) (4 : Int)) (k))]) rfl (jl_rv g121) ?_
          refine jx_ld (pc' := 55) (l' := L116) (st' := [rv (me), rv (F (F (pg_) (4 : Int)) (k))]) rfl (jl_rvn g117) ?_
          refine cx_vi (c := 1) (a := me) (st := [rv (F (F (pg_) (4 : Int)) (k))]) (as := []) rfl rfl rfl o_me t_me (by decide) rfl ⟨rfl, rfl, (by rw [jS_r, jS_0]; exact Nat.le_of_ble_eq_true rfl)⟩ rfl (k_LCoder_newLabel (dd := d) (R := R) (m := m) (tg := tg) (ln := ln) (F := Fx) (me := me) (hd := by omega) (hC := hCx) (o_me := o_me) (t_me := t_me)) (fun o V' hq => ?_)
          obtain ⟨F130, r131, rfl, rfl, hC132, hM133, b134, -⟩ := hq
          have hM135 : Fq 0 [(2, 7), (2, 8), (2, 9), (2, 10), (2, 11), (7, 6), (7, 9), (7, 10), (20, -5), (21, -5)] m tg F F130 := Fq_t (ln := ln) (ln1 := ln) hMx Ex_r hM133 (by decide) (Or.inl rfl)
          refine Or.inr (Or.inl ⟨_, rfl, ?_⟩)
          refine cx_pi (pc' := 61) (c := 6) (q := 10) (qi := (10 : Int)) (z := r131) rfl rfl (by decide) (by decide) rfl rfl rfl (by decide) rfl ho129.1 ho129.2 rfl ?_
          obtain ⟨F136, eF136⟩ : ∃ q, q = uF F130 (F (F (pg_) (4 : Int)) (k)) (10 : Int) (r131) := ⟨_, rfl⟩
          rw [← eF136]
          have hC137 : HC 0 m tg ln F136 := by rw [eF136]; exact HC_fi (c := 6) (q := 10) hC132 ho129.2 (by decide) rfl (by omega) (by omega) ⟨fun w => absurd w (by decide), fun w => absurd w (by decide)⟩
          have hM138 : Fq 0 [(2, 7), (2, 8), (2, 9), (2, 10), (2, 11), (7, 6), (7, 9), (7, 10), (20, -5), (21, -5)] m tg F F136 := by rw [eF136]; exact Fq_p hM135 ho129.2 (fun _ => rfl) rfl
          refine jx_ld (pc' := 62) (l' := L116) (st' := [rv (me)]) rfl (jl_rvn g117) ?_
          refine jx_ld (pc' := 64) (l' := L116) (st' := [rv (F (F (pg_) (4 : Int)) (k)), rv (me)]) rfl (jl_rv g121) ?_
          refine cx_gi (pc' := 67) (c := 6) (q := 10) (v := r131) rfl rfl (by decide) (by decide) (Or.inl rfl) rfl ho129.1 ho129.2 (show F136 (F (F (pg_) (4 : Int)) (k)) (10 : Int) = r131 from by rw [eF136]; exact uF_e) ?_
          refine cx_vi (c := 1) (a := me) (st := []) (as := [.int (i32 (r131))]) rfl rfl rfl o_me t_me (by decide) rfl ⟨rfl, rfl, (Nat.le_of_ble_eq_true rfl)⟩ rfl (k_LCoder_here (dd := d) (R := R) (m := m) (tg := tg) (ln := ln) (F := F136) (me := me) (lb := r131) (hd := by omega) (hC := hC137) (o_me := o_me) (t_me := t_me) (h_lb := by omega)) (fun o V' hq => ?_)
          obtain ⟨F139, rfl, rfl, hC140, hM141, -⟩ := hq
          have hM142 : Fq 0 [(2, 7), (2, 8), (2, 9), (2, 10), (2, 11), (7, 6), (7, 9), (7, 10), (20, -5), (21, -5)] m tg F F139 := Fq_t (ln := ln) (ln1 := ln) hM138 Ex_r hM141 (by decide) (Or.inl rfl)
          refine Or.inl ⟨rfl, ?_⟩
          refine jx_ld (pc' := 71) (l' := L116) (st' := [rv (me)]) rfl (jl_rvn g117) ?_
          refine jx_ar (pc' := 73) (st' := [.int (i32 (11)), rv (me)]) rfl rfl rfl rfl ?_
          refine jx_ld (pc' := 75) (l' := L116) (st' := [rv (F (F (pg_) (4 : Int)) (k)), .int (i32 (11)), rv (me)]) rfl (jl_rv g121) ?_
          refine cx_gi (pc' := 78) (c := 6) (q := 3) (v := F (F (F (pg_) (4 : Int)) (k)) (3 : Int)) rfl rfl (by decide) (by decide) (Or.inl rfl) rfl ho129.1 ho129.2 ((show F139 (F (F (pg_) (4 : Int)) (k)) (3 : Int) = F136 (F (F (pg_) (4 : Int)) (k)) (3 : Int) from hM141 _ _ ho129.1 (own_z ho129.1) (by rw [ho129.2]; rfl)).trans ((show F136 (F (F (pg_) (4 : Int)) (k)) (3 : Int) = F130 (F (F (pg_) (4 : Int)) (k)) (3 : Int) from by rw [eF136]; exact uF_j (by decide)).trans ((show F130 (F (F (pg_) (4 : Int)) (k)) (3 : Int) = Fx (F (F (pg_) (4 : Int)) (k)) (3 : Int) from hM133 _ _ ho129.1 (own_z ho129.1) (by rw [ho129.2]; rfl)).trans (show Fx (F (F (pg_) (4 : Int)) (k)) (3 : Int) = F (F (F (pg_) (4 : Int)) (k)) (3 : Int) from hMx _ _ ho129.1 (own_z ho129.1) (by rw [ho129.2]; rfl))))) ?_
          have b143 : (-2147483648 : Int) ≤ F (F (F (pg_) (4 : Int)) (k)) (3 : Int) ∧ F (F (F (pg_) (4 : Int)) (k)) (3 : Int) ≤ 2147483647 := by have z := HC_i (c := 6) (q := 3) hC140 ho129.1 ho129.2 (by decide) rfl; rw [show F139 (F (F (pg_) (4 : Int)) (k)) ((3 : Nat) : Int) = F (F (F (pg_) (4 : Int)) (k)) (3 : Int) from ((show F139 (F (F (pg_) (4 : Int)) (k)) (3 : Int) = F136 (F (F (pg_) (4 : Int)) (k)) (3 : Int) from hM141 _ _ ho129.1 (own_z ho129.1) (by rw [ho129.2]; rfl)).trans ((show F136 (F (F (pg_) (4 : Int)) (k)) (3 : Int) = F130 (F (F (pg_) (4 : Int)) (k)) (3 : Int) from by rw [eF136]; exact uF_j (by decide)).trans ((show F130 (F (F (pg_) (4 : Int)) (k)) (3 : Int) = Fx (F (F (pg_) (4 : Int)) (k)) (3 : Int) from hM133 _ _ ho129.1 (own_z ho129.1) (by rw [ho129.2]; rfl)).trans (show Fx (F (F (pg_) (4 : Int)) (k)) (3 : Int) = F (F (F (pg_) (4 : Int)) (k)) (3 : Int) from hMx _ _ ho129.1 (own_z ho129.1) (by rw [ho129.2]; rfl)))))] at z; exact z
          refine jx_ar (pc' := 79) (st' := [.int (i32 (3)), .int (i32 (F (F (F (pg_) (4 : Int)) (k)) (3 : Int))), .int (i32 (11)), rv (me)]) rfl rfl rfl rfl ?_
          refine jx_add (pc' := 80) rfl rfl ?_
          obtain ⟨z144, ez144⟩ : ∃ q, q = (i32 ((F (F (F (pg_) (4 : Int)) (k)) (3 : Int) + 3))).toInt := ⟨_, rfl⟩
          have bz144 : (-2147483648 : Int) ≤ z144 ∧ z144 ≤ 2147483647 := ez144 ▸ i32_rg _
          rw [show i32 ((F (F (F (pg_) (4 : Int)) (k)) (3 : Int) + 3)) = i32 z144 by rw [ez144, i32_of]]
          clear ez144
          refine jx_neg (pc' := 81) rfl rfl ?_
          obtain ⟨z145, ez145⟩ : ∃ q, q = (i32 ((-z144))).toInt := ⟨_, rfl⟩
          have bz145 : (-2147483648 : Int) ≤ z145 ∧ z145 ≤ 2147483647 := ez145 ▸ i32_rg _
          rw [show i32 ((-z144)) = i32 z145 by rw [ez145, i32_of]]
          clear ez145
          refine cx_vi (c := 1) (a := me) (st := []) (as := [.int (i32 (11)), .int (i32 (z145))]) rfl rfl rfl o_me t_me (by decide) rfl ⟨rfl, rfl, (Nat.le_of_ble_eq_true rfl)⟩ rfl (k_LCoder_emit (dd := d) (R := R) (m := m) (tg := tg) (ln := ln) (F := F139) (me := me) (fu := 11) (op := z145) (hd := by omega) (hC := hC140) (o_me := o_me) (t_me := t_me) (h_fu := by omega) (h_op := by omega)) (fun o V' hq => ?_)
          obtain ⟨F146, rfl, rfl, hC147, hM148, -⟩ := hq
          have hM149 : Fq 0 [(2, 7), (2, 8), (2, 9), (2, 10), (2, 11), (7, 6), (7, 9), (7, 10), (20, -5), (21, -5)] m tg F F146 := Fq_t (ln := ln) (ln1 := ln) hM142 Ex_r hM148 (by decide) (Or.inl rfl)
          refine Or.inl ⟨rfl, ?_⟩
          refine jx_ld (pc' := 85) (l' := L116) (st' := [rv (me)]) rfl (jl_rvn g117) ?_
          refine jx_ld (pc' := 87) (l' := L116) (st' := [rv (F (F (pg_) (4 : Int)) (k)), rv (me)]) rfl (jl_rv g121) ?_
          refine cx_gr (pc' := 90) (c := 6) (q := 12) (v := F (F (F (pg_) (4 : Int)) (k)) (12 : Int)) rfl rfl (by decide) (by decide) rfl rfl ho129.1 ho129.2 ((show F146 (F (F (pg_) (4 : Int)) (k)) (12 : Int) = F139 (F (F (pg_) (4 : Int)) (k)) (12 : Int) from hM148 _ _ ho129.1 (own_z ho129.1) (by rw [ho129.2]; rfl)).trans ((show F139 (F (F (pg_) (4 : Int)) (k)) (12 : Int) = F136 (F (F (pg_) (4 : Int)) (k)) (12 : Int) from hM141 _ _ ho129.1 (own_z ho129.1) (by rw [ho129.2]; rfl)).trans ((show F136 (F (F (pg_) (4 : Int)) (k)) (12 : Int) = F130 (F (F (pg_) (4 : Int)) (k)) (12 : Int) from by rw [eF136]; exact uF_j (by decide)).trans ((show F130 (F (F (pg_) (4 : Int)) (k)) (12 : Int) = Fx (F (F (pg_) (4 : Int)) (k)) (12 : Int) from hM133 _ _ ho129.1 (own_z ho129.1) (by rw [ho129.2]; rfl)).trans (show Fx (F (F (pg_) (4 : Int)) (k)) (12 : Int) = F (F (F (pg_) (4 : Int)) (k)) (12 : Int) from hMx _ _ ho129.1 (own_z ho129.1) (by rw [ho129.2]; rfl)))))) ?_
          have y150 : F (F (F (pg_) (4 : Int)) (k)) (12 : Int) = 0 ∨ (own m (F (F (F (pg_) (4 : Int)) (k)) (12 : Int)) ∧ tg (F (F (F (pg_) (4 : Int)) (k)) (12 : Int)) = 8) := by have z := HC_r (c := 6) (q := 12) hC147 ho129.1 ho129.2 (by decide) rfl; rw [show F146 (F (F (pg_) (4 : Int)) (k)) ((12 : Nat) : Int) = F (F (F (pg_) (4 : Int)) (k)) (12 : Int) from ((show F146 (F (F (pg_) (4 : Int)) (k)) (12 : Int) = F139 (F (F (pg_) (4 : Int)) (k)) (12 : Int) from hM148 _ _ ho129.1 (own_z ho129.1) (by rw [ho129.2]; rfl)).trans ((show F139 (F (F (pg_) (4 : Int)) (k)) (12 : Int) = F136 (F (F (pg_) (4 : Int)) (k)) (12 : Int) from hM141 _ _ ho129.1 (own_z ho129.1) (by rw [ho129.2]; rfl)).trans ((show F136 (F (F (pg_) (4 : Int)) (k)) (12 : Int) = F130 (F (F (pg_) (4 : Int)) (k)) (12 : Int) from by rw [eF136]; exact uF_j (by decide)).trans ((show F130 (F (F (pg_) (4 : Int)) (k)) (12 : Int) = Fx (F (F (pg_) (4 : Int)) (k)) (12 : Int) from hM133 _ _ ho129.1 (own_z ho129.1) (by rw [ho129.2]; rfl)).trans (show Fx (F (F (pg_) (4 : Int)) (k)) (12 : Int) = F (F (F (pg_) (4 : Int)) (k)) (12 : Int) from hMx _ _ ho129.1 (own_z ho129.1) (by rw [ho129.2]; rfl))))))] at z; exact z
          refine cx_vi (c := 1) (a := me) (st := []) (as := [rv (F (F (F (pg_) (4 : Int)) (k)) (12 : Int))]) rfl rfl rfl o_me t_me (by decide) rfl ⟨rfl, rfl, (Nat.le_of_ble_eq_true rfl)⟩ rfl (CPx_all X (60) (dd := d) (R := R) (m := m) (tg := tg) (ln := ln) (F := F146) (me := me) (p := F (F (F (pg_) (4 : Int)) (k)) (12 : Int)) (hd := by omega) (hC := hC147) (o_me := o_me) (t_me := t_me) (y_p := y150) (c_NT := NT_q hC c_NT hM149 rfl) (n_p := (SN_q (SN_w (c_PG.2 _ ho129.1 ho129.2) (by omega)) hM149 rfl rfl))) (fun o V' hq => ?_)
          obtain ⟨F151, rfl, rfl, hC152, hM153, -⟩ := hq
          have hM154 : Fq 0 [(2, 7), (2, 8), (2, 9), (2, 10), (2, 11), (7, 6), (7, 9), (7, 10), (20, -5), (21, -5)] m tg F F151 := Fq_t (ln := ln) (ln1 := ln) hM149 Ex_r hM153 (by decide) (Or.inl rfl)
          refine Or.inl ⟨rfl, ?_⟩
          refine jx_ld (pc' := 94) (l' := L116) (st' := [rv (me)]) rfl (jl_rvn g117) ?_
          refine jx_ar (pc' := 96) (st' := [.int (i32 (11)), rv (me)]) rfl rfl rfl rfl ?_
          refine jx_ld (pc' := 98) (l' := L116) (st' := [rv (F (F (pg_) (4 : Int)) (k)), .int (i32 (11)), rv (me)]) rfl (jl_rv g121) ?_
          refine cx_gi (pc' := 101) (c := 6) (q := 3) (v := F (F (F (pg_) (4 : Int)) (k)) (3 : Int)) rfl rfl (by decide) (by decide) (Or.inl rfl) rfl ho129.1 ho129.2 ((show F151 (F (F (pg_) (4 : Int)) (k)) (3 : Int) = F146 (F (F (pg_) (4 : Int)) (k)) (3 : Int) from hM153 _ _ ho129.1 (own_z ho129.1) (by rw [ho129.2]; rfl)).trans ((show F146 (F (F (pg_) (4 : Int)) (k)) (3 : Int) = F139 (F (F (pg_) (4 : Int)) (k)) (3 : Int) from hM148 _ _ ho129.1 (own_z ho129.1) (by rw [ho129.2]; rfl)).trans ((show F139 (F (F (pg_) (4 : Int)) (k)) (3 : Int) = F136 (F (F (pg_) (4 : Int)) (k)) (3 : Int) from hM141 _ _ ho129.1 (own_z ho129.1) (by rw [ho129.2]; rfl)).trans ((show F136 (F (F (pg_) (4 : Int)) (k)) (3 : Int) = F130 (F (F (pg_) (4 : Int)) (k)) (3 : Int) from by rw [eF136]; exact uF_j (by decide)).trans ((show F130 (F (F (pg_) (4 : Int)) (k)) (3 : Int) = Fx (F (F (pg_) (4 : Int)) (k)) (3 : Int) from hM133 _ _ ho129.1 (own_z ho129.1) (by rw [ho129.2]; rfl)).trans (show Fx (F (F (pg_) (4 : Int)) (k)) (3 : Int) = F (F (F (pg_) (4 : Int)) (k)) (3 : Int) from hMx _ _ ho129.1 (own_z ho129.1) (by rw [ho129.2]; rfl))))))) ?_
          refine jx_ar (pc' := 102) (st' := [.int (i32 (3)), .int (i32 (F (F (F (pg_) (4 : Int)) (k)) (3 : Int))), .int (i32 (11)), rv (me)]) rfl rfl rfl rfl ?_
          refine jx_add (pc' := 103) rfl rfl ?_
          obtain ⟨z155, ez155⟩ : ∃ q, q = (i32 ((F (F (F (pg_) (4 : Int)) (k)) (3 : Int) + 3))).toInt := ⟨_, rfl⟩
          have bz155 : (-2147483648 : Int) ≤ z155 ∧ z155 ≤ 2147483647 := ez155 ▸ i32_rg _
          rw [show i32 ((F (F (F (pg_) (4 : Int)) (k)) (3 : Int) + 3)) = i32 z155 by rw [ez155, i32_of]]
          clear ez155
          refine cx_vi (c := 1) (a := me) (st := []) (as := [.int (i32 (11)), .int (i32 (z155))]) rfl rfl rfl o_me t_me (by decide) rfl ⟨rfl, rfl, (Nat.le_of_ble_eq_true rfl)⟩ rfl (k_LCoder_emit (dd := d) (R := R) (m := m) (tg := tg) (ln := ln) (F := F151) (me := me) (fu := 11) (op := z155) (hd := by omega) (hC := hC152) (o_me := o_me) (t_me := t_me) (h_fu := by omega) (h_op := by omega)) (fun o V' hq => ?_)
          obtain ⟨F156, rfl, rfl, hC157, hM158, -⟩ := hq
          have hM159 : Fq 0 [(2, 7), (2, 8), (2, 9), (2, 10), (2, 11), (7, 6), (7, 9), (7, 10), (20, -5), (21, -5)] m tg F F156 := Fq_t (ln := ln) (ln1 := ln) hM154 Ex_r hM158 (by decide) (Or.inl rfl)
          refine Or.inl ⟨rfl, ?_⟩
          refine jx_ld (pc' := 107) (l' := L116) (st' := [rv (me)]) rfl (jl_rvn g117) ?_
          refine jx_ar (pc' := 109) (st' := [.int (i32 (19)), rv (me)]) rfl rfl rfl rfl ?_
          refine cx_vi (c := 1) (a := me) (st := []) (as := [.int (i32 (19))]) rfl rfl rfl o_me t_me (by decide) rfl ⟨rfl, rfl, (Nat.le_of_ble_eq_true rfl)⟩ rfl (k_LCoder_operation (dd := d) (R := R) (m := m) (tg := tg) (ln := ln) (F := F156) (me := me) (op := 19) (hd := by omega) (hC := hC157) (o_me := o_me) (t_me := t_me) (h_op := by omega)) (fun o V' hq => ?_)
          obtain ⟨F160, rfl, rfl, hC161, hM162, -⟩ := hq
          have hM163 : Fq 0 [(2, 7), (2, 8), (2, 9), (2, 10), (2, 11), (7, 6), (7, 9), (7, 10), (20, -5), (21, -5)] m tg F F160 := Fq_t (ln := ln) (ln1 := ln) hM159 Ex_r hM162 (by decide) (Or.inl rfl)
          refine Or.inl ⟨rfl, ?_⟩
          refine jx_inc (pc' := 115) (l' := jSto1 L116 3 (.int (i32 (k + (1))))) (x := k) rfl g120 (by decide) rfl rfl ?_
          obtain ⟨L164, eL164⟩ : ∃ q : jL, q = jSto1 L116 3 (.int (i32 ((k + (1))))) := ⟨_, rfl⟩
          rw [← eL164]
          have g165 : jGet L164 0 = some (rv (me)) := eL164 ▸ jg_nr (by decide) g117
          have g166 : jGet L164 1 = some (rv (pg_)) := eL164 ▸ jg_nr (by decide) g118
          have g167 : jGet L164 2 = some (rv (rt)) := eL164 ▸ jg_nr (by decide) g119
          have g168 : jGet L164 4 = some (rv (F (F (pg_) (4 : Int)) (k))) := eL164 ▸ jg_nr (by decide) g121
          have g169 : jGet L164 3 = some (.int (i32 ((k + (1))))) := eL164 ▸ jg_eq
          clear eL164
          refine jx_go (tg := 22) rfl rfl ?_
          exact ih _ (by omega) L164 F160 ((k + (1))) rfl g165 g166 g167 g169 hC161 hM163 (by omega) (by omega)
set_option maxRecDepth 20000 in
set_option maxHeartbeats 4000000 in
theorem k_LCoder_translate {X : jX} {kk : Nat} {dd : Nat} {R : Nat → jC} {m : Nat} {tg ln : Int → Int} {F : Int → Int → Int} {me pg_ rt : Int} (hd : 200 ≤ dd) (hC : HC 0 m tg ln F) (o_me : own m me) (t_me : tg me = 2) (o_pg_ : own m pg_) (t_pg_ : tg pg_ = 10) (o_rt : own m rt) (t_rt : tg rt = 8) (p_0 : kk = 60) (c_NT : NT m tg F) (c_PG : PG m tg F) (n_rt : SN m tg F rt (kk)) : wk X dd 43 [rv me, rv pg_, rv rt] (cV R m tg ln F) (fun o V' => ∃ (F' : Int → Int → Int), V' = cV R m tg ln F' ∧ o = .inl none ∧ HC 0 m tg ln F' ∧ Fq 0 [(2, 7), (2, 8), (2, 9), (2, 10), (2, 11), (7, 6), (7, 9), (7, 10), (20, -5), (21, -5)] m tg F F' ∧ True) := by
  obtain ⟨d, rfl⟩ : ∃ d, dd = d + 1 := ⟨dd - 1, by omega⟩
  refine wk_of (e := jm43) rfl (by rw [jS_r, jS_r, jS_r, jS_0]; exact Nat.le_of_ble_eq_true rfl) ?_
  rw [la_r, la_r, la_r, la_0]
  show wj X d jm43 (0, [(0, rv (me)), (1, rv (pg_)), (2, rv (rt))], [], cV R m tg ln F) _
  have hM0 : Fq 0 [(2, 7), (2, 8), (2, 9), (2, 10), (2, 11), (7, 6), (7, 9), (7, 10), (20, -5), (21, -5)] m tg F F := Fq_r
  obtain ⟨L0, eL0⟩ : ∃ q : jL, q = [(0, rv (me)), (1, rv (pg_)), (2, rv (rt))] := ⟨_, rfl⟩
  rw [← eL0]
  have g170 : jGet L0 0 = some (rv (me)) := eL0 ▸ (rfl : jGet [(0, rv (me)), (1, rv (pg_)), (2, rv (rt))] 0 = some (rv (me)))
  have g171 : jGet L0 1 = some (rv (pg_)) := eL0 ▸ (rfl : jGet [(0, rv (me)), (1, rv (pg_)), (2, rv (rt))] 1 = some (rv (pg_)))
  have g172 : jGet L0 2 = some (rv (rt)) := eL0 ▸ (rfl : jGet [(0, rv (me)), (1, rv (pg_)), (2, rv (rt))] 2 = some (rv (rt)))
  clear eL0
  have k173 := SN_p n_rt (own_z o_rt)
  refine jx_ld (pc' := 1) (l' := L0) (st' := [rv (me)]) rfl (jl_rvn g170) ?_
  refine jx_ar (pc' := 2) (st' := [.int (i32 (0)), rv (me)]) rfl rfl rfl rfl ?_
  refine cx_pi (pc' := 5) (c := 1) (q := 7) (qi := (7 : Int)) (z := 0) rfl rfl (by decide) (by decide) rfl rfl rfl (by decide) rfl o_me t_me rfl ?_
  obtain ⟨F174, eF174⟩ : ∃ q, q = uF F (me) (7 : Int) (0) := ⟨_, rfl⟩
  rw [← eF174]
  have hC175 : HC 0 m tg ln F174 := by rw [eF174]; exact HC_fi (c := 1) (q := 7) hC t_me (by decide) rfl (by omega) (by omega) ⟨fun w => absurd w (by decide), fun w => absurd w (by decide)⟩
  have hM176 : Fq 0 [(2, 7), (2, 8), (2, 9), (2, 10), (2, 11), (7, 6), (7, 9), (7, 10), (20, -5), (21, -5)] m tg F F174 := by rw [eF174]; exact Fq_p hM0 t_me (fun _ => rfl) rfl
  refine jx_ld (pc' := 6) (l' := L0) (st' := [rv (me)]) rfl (jl_rvn g170) ?_
  refine jx_ar (pc' := 7) (st' := [.int (i32 (0)), rv (me)]) rfl rfl rfl rfl ?_
  refine cx_pi (pc' := 10) (c := 1) (q := 8) (qi := (8 : Int)) (z := 0) rfl rfl (by decide) (by decide) rfl rfl rfl (by decide) rfl o_me t_me rfl ?_
  obtain ⟨F177, eF177⟩ : ∃ q, q = uF F174 (me) (8 : Int) (0) := ⟨_, rfl⟩
  rw [← eF177]
  have hC178 : HC 0 m tg ln F177 := by rw [eF177]; exact HC_fi (c := 1) (q := 8) hC175 t_me (by decide) rfl (by omega) (by omega) ⟨fun w => absurd w (by decide), fun w => absurd w (by decide)⟩
  have hM179 : Fq 0 [(2, 7), (2, 8), (2, 9), (2, 10), (2, 11), (7, 6), (7, 9), (7, 10), (20, -5), (21, -5)] m tg F F177 := by rw [eF177]; exact Fq_p hM176 t_me (fun _ => rfl) rfl
  refine jx_ld (pc' := 11) (l' := L0) (st' := [rv (me)]) rfl (jl_rvn g170) ?_
  refine jx_ar (pc' := 12) (st' := [.int (i32 (0)), rv (me)]) rfl rfl rfl rfl ?_
  refine cx_pb (pc' := 15) (c := 1) (q := 11) (qi := (11 : Int)) (z := 0) rfl rfl (by decide) (by decide) rfl rfl rfl (by decide) (by omega) rfl o_me t_me rfl ?_
  obtain ⟨F180, eF180⟩ : ∃ q, q = uF F177 (me) (11 : Int) (0) := ⟨_, rfl⟩
  rw [← eF180]
  have hC181 : HC 0 m tg ln F180 := by rw [eF180]; exact HC_fi (c := 1) (q := 11) hC178 t_me (by decide) rfl (by omega) (by omega) ⟨fun w => absurd w (by decide), fun w => absurd w (by decide)⟩
  have hM182 : Fq 0 [(2, 7), (2, 8), (2, 9), (2, 10), (2, 11), (7, 6), (7, 9), (7, 10), (20, -5), (21, -5)] m tg F F180 := by rw [eF180]; exact Fq_p hM179 t_me (fun _ => rfl) rfl
  refine jx_ld (pc' := 16) (l' := L0) (st' := [rv (me)]) rfl (jl_rvn g170) ?_
  refine jx_ar (pc' := 17) (st' := [.int (i32 (0)), rv (me)]) rfl rfl rfl rfl ?_
  refine cx_pi (pc' := 20) (c := 1) (q := 10) (qi := (10 : Int)) (z := 0) rfl rfl (by decide) (by decide) rfl rfl rfl (by decide) rfl o_me t_me rfl ?_
  obtain ⟨F183, eF183⟩ : ∃ q, q = uF F180 (me) (10 : Int) (0) := ⟨_, rfl⟩
  rw [← eF183]
  have hC184 : HC 0 m tg ln F183 := by rw [eF183]; exact HC_fi (c := 1) (q := 10) hC181 t_me (by decide) rfl (by omega) (by omega) ⟨fun w => absurd w (by decide), fun w => absurd w (by decide)⟩
  have hM185 : Fq 0 [(2, 7), (2, 8), (2, 9), (2, 10), (2, 11), (7, 6), (7, 9), (7, 10), (20, -5), (21, -5)] m tg F F183 := by rw [eF183]; exact Fq_p hM182 t_me (fun _ => rfl) rfl
  refine jx_ar (pc' := 21) (st' := [.int (i32 (0))]) rfl rfl rfl rfl ?_
  refine jx_ld (pc' := 22) (l' := jSto1 L0 3 (.int (i32 (0)))) (st' := []) rfl rfl ?_
  obtain ⟨L186, eL186⟩ : ∃ q : jL, q = jSto1 L0 3 (.int (i32 (0))) := ⟨_, rfl⟩
  rw [← eL186]
  have g187 : jGet L186 0 = some (rv (me)) := eL186 ▸ jg_nr (by decide) g170
  have g188 : jGet L186 1 = some (rv (pg_)) := eL186 ▸ jg_nr (by decide) g171
  have g189 : jGet L186 2 = some (rv (rt)) := eL186 ▸ jg_nr (by decide) g172
  have g190 : jGet L186 3 = some (.int (i32 (0))) := eL186 ▸ jg_eq
  clear eL186
  exact k_LCoder_translate_at_22 (X := X) (kk := kk) (d := d) (R := R) (m := m) (tg := tg) (ln := ln) (F := F) (me := me) (pg_ := pg_) (rt := rt) (hd := hd) (hC := hC) (o_me := o_me) (t_me := t_me) (o_pg_ := o_pg_) (t_pg_ := t_pg_) (o_rt := o_rt) (t_rt := t_rt) (p_0 := p_0) (c_NT := c_NT) (c_PG := c_PG) (n_rt := n_rt) _ L186 F183 (0) rfl g187 g188 g189 g190 hC184 hM185 (by omega) (by omega)
