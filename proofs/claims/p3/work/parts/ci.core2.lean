set_option maxRecDepth 20000 in
set_option maxHeartbeats 4000000 in
theorem k_LCore_leave {X : jX} {dd : Nat} {R : Nat → jC} {m : Nat} {tg ln : Int → Int} {F : Int → Int → Int} {me : Int} (hd : 2 ≤ dd) (hC : HC 0 m tg ln F) (o_me : own m me) (t_me : tg me = 3) : wk X dd 95 [rv me] (cV R m tg ln F) (fun o V_q => ∃ (F_q : Int → Int → Int), V_q = cV R m tg ln F_q ∧ o = .inl none ∧ HC 0 m tg ln F_q ∧ Fq 0 [(3, 5), (3, 6), (3, 7), (3, 8), (3, 9), (3, 10), (3, 11), (3, 19)] m tg F F_q ∧ True) := by
  obtain ⟨d, rfl⟩ : ∃ d, dd = d + 1 := ⟨dd - 1, by omega⟩
  refine wk_of (e := jm95) rfl (by rw [jS_r, jS_0]; exact Nat.le_of_ble_eq_true rfl) ?_
  rw [la_r, la_0]
  show wj X d jm95 (0, [(0, rv (me))], [], cV R m tg ln F) _
  have hM0 : Fq 0 [(3, 5), (3, 6), (3, 7), (3, 8), (3, 9), (3, 10), (3, 11), (3, 19)] m tg F F := Fq_r
  obtain ⟨L0, eL0⟩ : ∃ q : jL, q = [(0, rv (me))] := ⟨_, rfl⟩
  rw [← eL0]
  have g1 : jGet L0 0 = some (rv (me)) := eL0 ▸ (rfl : jGet [(0, rv (me))] 0 = some (rv (me)))
  clear eL0
  refine jx_ld (pc_q := 1) (l_q := L0) (st_q := [rv (me)]) rfl (jl_rvn g1) ?_
  refine jx_ar (pc_q := 2) (st_q := [.int (i32 (0)), rv (me)]) rfl rfl rfl rfl ?_
  refine cx_pb (pc_q := 5) (c := 2) (q := 11) (qi := (11 : Int)) (z := 0) rfl rfl (by decide) (by decide) rfl rfl rfl (by decide) (by omega) rfl o_me t_me rfl ?_
  obtain ⟨F2, eF2⟩ : ∃ q, q = uF F (me) (11 : Int) (0) := ⟨_, rfl⟩
  rw [← eF2]
  have hC3 : HC 0 m tg ln F2 := by rw [eF2]; exact HC_fi (c := 2) (q := 11) hC t_me (by decide) rfl (by omega) (by omega) ⟨fun w => absurd w (by decide), fun _ => ⟨fun w => absurd w (by decide), fun w => absurd w (by decide)⟩⟩
  have hM4 : Fq 0 [(3, 5), (3, 6), (3, 7), (3, 8), (3, 9), (3, 10), (3, 11), (3, 19)] m tg F F2 := by rw [eF2]; exact Fq_p hM0 t_me (fun _ => rfl) rfl
  refine jx_ld (pc_q := 6) (l_q := L0) (st_q := [rv (me)]) rfl (jl_rvn g1) ?_
  refine cx_vi (c := 2) (a := me) (st := []) (as := []) rfl rfl rfl o_me t_me (by decide) rfl ⟨rfl, rfl, (Nat.le_of_ble_eq_true rfl)⟩ rfl (k_LCore_clearRegisters (dd := d) (R := R) (m := m) (tg := tg) (ln := ln) (F := F2) (me := me) (hd := by omega) (hC := hC3) (o_me := o_me) (t_me := t_me)) (fun o V_q hq => ?_)
  obtain ⟨F5, rfl, rfl, hC6, hM7, -⟩ := hq
  have hM8 : Fq 0 [(3, 5), (3, 6), (3, 7), (3, 8), (3, 9), (3, 10), (3, 11), (3, 19)] m tg F F5 := Fq_t (ln := ln) (ln1 := ln) hM4 Ex_r hM7 (by decide) (Or.inl rfl)
  refine Or.inl ⟨rfl, ?_⟩
  refine jx_rt (v := none) rfl rfl rfl rfl rfl rfl ?_
  exact ⟨F5, rfl, rfl, hC6, hM8, trivial⟩
set_option maxRecDepth 20000 in
set_option maxHeartbeats 4000000 in
theorem k_LCore_dispatch {X : jX} {dd : Nat} {R : Nat → jC} {m : Nat} {tg ln : Int → Int} {F : Int → Int → Int} {me : Int} (hd : 2 ≤ dd) (hC : HC 0 m tg ln F) (o_me : own m me) (t_me : tg me = 3) : wk X dd 96 [rv me] (cV R m tg ln F) (fun o V_q => ∃ (F_q : Int → Int → Int), V_q = cV R m tg ln F_q ∧ o = .inl none ∧ HC 0 m tg ln F_q ∧ Fq 0 [(3, 5), (3, 6), (3, 7), (3, 8), (3, 9), (3, 10), (3, 11), (3, 12), (3, 16), (3, 17), (3, 19), (3, 20), (21, -5)] m tg F F_q ∧ True) := by
  obtain ⟨d, rfl⟩ : ∃ d, dd = d + 1 := ⟨dd - 1, by omega⟩
  refine wk_of (e := jm96) rfl (by rw [jS_r, jS_0]; exact Nat.le_of_ble_eq_true rfl) ?_
  rw [la_r, la_0]
  show wj X d jm96 (0, [(0, rv (me))], [], cV R m tg ln F) _
  have hM0 : Fq 0 [(3, 5), (3, 6), (3, 7), (3, 8), (3, 9), (3, 10), (3, 11), (3, 12), (3, 16), (3, 17), (3, 19), (3, 20), (21, -5)] m tg F F := Fq_r
  obtain ⟨L0, eL0⟩ : ∃ q : jL, q = [(0, rv (me))] := ⟨_, rfl⟩
  rw [← eL0]
  have g1 : jGet L0 0 = some (rv (me)) := eL0 ▸ (rfl : jGet [(0, rv (me))] 0 = some (rv (me)))
  clear eL0
  refine jx_ld (pc_q := 1) (l_q := L0) (st_q := [rv (me)]) rfl (jl_rvn g1) ?_
  refine cx_gi (pc_q := 4) (c := 2) (q := 16) (v := F (me) (16 : Int)) rfl rfl (by decide) (by decide) (Or.inl rfl) rfl o_me t_me rfl ?_
  have b2 : (-2147483648 : Int) ≤ F (me) (16 : Int) ∧ F (me) (16 : Int) ≤ 2147483647 := by have z := HC_i (c := 2) (q := 16) hC o_me t_me (by decide) rfl; rw [show F (me) ((16 : Nat) : Int) = F (me) (16 : Int) from rfl] at z; exact z
  have x3 := (hC.2.2.2.2.2 (me) o_me (own_z o_me)).2 t_me
  refine jx_if_gt (pc_q := 7) (tg := 8) rfl rfl rfl (by omega) (by omega) (fun h4 => ?_) (fun h4 => ?_)
  · have _q := h4
    refine jx_ld (pc_q := 9) (l_q := L0) (st_q := [rv (me)]) rfl (jl_rvn g1) ?_
    refine cx_vi (c := 2) (a := me) (st := []) (as := []) rfl rfl rfl o_me t_me (by decide) rfl ⟨rfl, rfl, (Nat.le_of_ble_eq_true rfl)⟩ rfl (k_LCore_clearRegisters (dd := d) (R := R) (m := m) (tg := tg) (ln := ln) (F := F) (me := me) (hd := by omega) (hC := hC) (o_me := o_me) (t_me := t_me)) (fun o V_q hq => ?_)
    obtain ⟨F5, rfl, rfl, hC6, hM7, -⟩ := hq
    have hM8 : Fq 0 [(3, 5), (3, 6), (3, 7), (3, 8), (3, 9), (3, 10), (3, 11), (3, 12), (3, 16), (3, 17), (3, 19), (3, 20), (21, -5)] m tg F F5 := Fq_t (ln := ln) (ln1 := ln) hM0 Ex_r hM7 (by decide) (Or.inl rfl)
    refine Or.inl ⟨rfl, ?_⟩
    refine jx_ld (pc_q := 13) (l_q := L0) (st_q := [rv (me)]) rfl (jl_rvn g1) ?_
    refine jx_ar (pc_q := 14) (st_q := [.int (i32 (1)), rv (me)]) rfl rfl rfl rfl ?_
    refine cx_pb (pc_q := 17) (c := 2) (q := 11) (qi := (11 : Int)) (z := 1) rfl rfl (by decide) (by decide) rfl rfl rfl (by decide) (by omega) rfl o_me t_me rfl ?_
    obtain ⟨F9, eF9⟩ : ∃ q, q = uF F5 (me) (11 : Int) (1) := ⟨_, rfl⟩
    rw [← eF9]
    have hC10 : HC 0 m tg ln F9 := by rw [eF9]; exact HC_fi (c := 2) (q := 11) hC6 t_me (by decide) rfl (by omega) (by omega) ⟨fun w => absurd w (by decide), fun _ => ⟨fun w => absurd w (by decide), fun w => absurd w (by decide)⟩⟩
    have hM11 : Fq 0 [(3, 5), (3, 6), (3, 7), (3, 8), (3, 9), (3, 10), (3, 11), (3, 12), (3, 16), (3, 17), (3, 19), (3, 20), (21, -5)] m tg F F9 := by rw [eF9]; exact Fq_p hM8 t_me (fun _ => rfl) rfl
    refine jx_ld (pc_q := 18) (l_q := L0) (st_q := [rv (me)]) rfl (jl_rvn g1) ?_
    refine cx_gr (pc_q := 21) (c := 2) (q := 15) (v := F (me) (15 : Int)) rfl rfl (by decide) (by decide) rfl rfl o_me t_me ((show F9 (me) (15 : Int) = F5 (me) (15 : Int) from by rw [eF9]; exact uF_j (by decide)).trans (show F5 (me) (15 : Int) = F (me) (15 : Int) from hM7 _ _ o_me (own_z o_me) (by rw [t_me]; rfl))) ?_
    have y12 : own m (F (me) (15 : Int)) ∧ tg (F (me) (15 : Int)) = 21 ∧ ((0 : Int) ≠ 0 → ln (F (me) (15 : Int)) = 0) := by have z := HC_n (c := 2) (q := 15) hC10 o_me t_me (own_z o_me) (by decide) rfl; rw [show F9 (me) ((15 : Nat) : Int) = F (me) (15 : Int) from ((show F9 (me) (15 : Int) = F5 (me) (15 : Int) from by rw [eF9]; exact uF_j (by decide)).trans (show F5 (me) (15 : Int) = F (me) (15 : Int) from hM7 _ _ o_me (own_z o_me) (by rw [t_me]; rfl)))] at z; exact ⟨z.1, z.2.1, z.2.2.1⟩
    refine jx_ar (pc_q := 22) (st_q := [.int (i32 (0)), rv (F (me) (15 : Int))]) rfl rfl rfl rfl ?_
    have b13 := HC_l hC10 y12.1 y12.2.1 (by decide)
    refine cx_ial (pc_q := 23) (z := 0) rfl rfl y12.1 y12.2.1 (by omega) (by omega) (by omega) ?_
    rw [show F9 (F (me) (15 : Int)) (0) = F5 (F (me) (15 : Int)) (0 : Int) from (show F9 (F (me) (15 : Int)) (0 : Int) = F5 (F (me) (15 : Int)) (0 : Int) from by rw [eF9]; exact uF_j (by decide))]
    have b14 : (-2147483648 : Int) ≤ F5 (F (me) (15 : Int)) (0 : Int) ∧ F5 (F (me) (15 : Int)) (0 : Int) ≤ 2147483647 := by have z := HC_ei (j := 0) hC10 y12.1 (by rw [y12.2.1]; decide) (by omega); rw [show F9 (F (me) (15 : Int)) (0) = F5 (F (me) (15 : Int)) (0 : Int) from (show F9 (F (me) (15 : Int)) (0 : Int) = F5 (F (me) (15 : Int)) (0 : Int) from by rw [eF9]; exact uF_j (by decide))] at z; exact z
    refine jx_ld (pc_q := 24) (l_q := jSto1 L0 1 (.int (i32 (F5 (F (me) (15 : Int)) (0 : Int))))) (st_q := []) rfl rfl ?_
    obtain ⟨L15, eL15⟩ : ∃ q : jL, q = jSto1 L0 1 (.int (i32 (F5 (F (me) (15 : Int)) (0 : Int)))) := ⟨_, rfl⟩
    rw [← eL15]
    have g16 : jGet L15 0 = some (rv (me)) := eL15 ▸ jg_nr (by decide) g1
    have g17 : jGet L15 1 = some (.int (i32 (F5 (F (me) (15 : Int)) (0 : Int)))) := eL15 ▸ jg_eq
    clear eL15
    refine jx_ld (pc_q := 25) (l_q := L15) (st_q := [rv (me)]) rfl (jl_rvn g16) ?_
    refine jx_ar (pc_q := 26) (st_q := [rv (me), rv (me)]) rfl rfl ja_dup rfl ?_
    refine cx_gi (pc_q := 29) (c := 2) (q := 16) (v := F (me) (16 : Int)) rfl rfl (by decide) (by decide) (Or.inl rfl) rfl o_me t_me ((show F9 (me) (16 : Int) = F5 (me) (16 : Int) from by rw [eF9]; exact uF_j (by decide)).trans (show F5 (me) (16 : Int) = F (me) (16 : Int) from hM7 _ _ o_me (own_z o_me) (by rw [t_me]; rfl))) ?_
    have x18 := (hC10.2.2.2.2.2 (me) o_me (own_z o_me)).2 t_me
    rw [show F9 (me) (15 : Int) = F (me) (15 : Int) from ((show F9 (me) (15 : Int) = F5 (me) (15 : Int) from by rw [eF9]; exact uF_j (by decide)).trans (show F5 (me) (15 : Int) = F (me) (15 : Int) from hM7 _ _ o_me (own_z o_me) (by rw [t_me]; rfl)))] at x18
    rw [show F9 (me) (16 : Int) = F (me) (16 : Int) from ((show F9 (me) (16 : Int) = F5 (me) (16 : Int) from by rw [eF9]; exact uF_j (by decide)).trans (show F5 (me) (16 : Int) = F (me) (16 : Int) from hM7 _ _ o_me (own_z o_me) (by rw [t_me]; rfl)))] at x18
    refine jx_ar (pc_q := 30) (st_q := [.int (i32 (1)), .int (i32 (F (me) (16 : Int))), rv (me)]) rfl rfl rfl rfl ?_
    refine jx_sub (pc_q := 31) rfl rfl ?_
    refine cx_pi (pc_q := 34) (c := 2) (q := 16) (qi := (16 : Int)) (z := (F (me) (16 : Int) - 1)) rfl rfl (by decide) (by decide) rfl rfl rfl (by decide) rfl o_me t_me rfl ?_
    obtain ⟨F19, eF19⟩ : ∃ q, q = uF F9 (me) (16 : Int) ((F (me) (16 : Int) - 1)) := ⟨_, rfl⟩
    rw [← eF19]
    have hC20 : HC 0 m tg ln F19 := by rw [eF19]; exact HC_fi (c := 2) (q := 16) hC10 t_me (by decide) rfl (by omega) (by omega) ⟨fun w => absurd w (by decide), fun _ => ⟨fun w => absurd w (by decide), fun _ => Or.inr (by have z5 := (hC10.2.2.2.2.2 _ o_me (own_z o_me)).2 t_me; rw [show F9 (me) 15 = F (me) (15 : Int) from ((show F9 (me) (15 : Int) = F5 (me) (15 : Int) from by rw [eF9]; exact uF_j (by decide)).trans (show F5 (me) (15 : Int) = F (me) (15 : Int) from hM7 _ _ o_me (own_z o_me) (by rw [t_me]; rfl)))] at z5 ⊢; exact ⟨by omega, by omega⟩)⟩⟩
    have hM21 : Fq 0 [(3, 5), (3, 6), (3, 7), (3, 8), (3, 9), (3, 10), (3, 11), (3, 12), (3, 16), (3, 17), (3, 19), (3, 20), (21, -5)] m tg F F19 := by rw [eF19]; exact Fq_p hM11 t_me (fun _ => rfl) rfl
    refine jx_ld (pc_q := 35) (l_q := L15) (st_q := [rv (me)]) rfl (jl_rvn g16) ?_
    refine cx_gr (pc_q := 38) (c := 2) (q := 15) (v := F (me) (15 : Int)) rfl rfl (by decide) (by decide) rfl rfl o_me t_me ((show F19 (me) (15 : Int) = F9 (me) (15 : Int) from by rw [eF19]; exact uF_j (by decide)).trans ((show F9 (me) (15 : Int) = F5 (me) (15 : Int) from by rw [eF9]; exact uF_j (by decide)).trans (show F5 (me) (15 : Int) = F (me) (15 : Int) from hM7 _ _ o_me (own_z o_me) (by rw [t_me]; rfl)))) ?_
    refine jx_ar (pc_q := 39) (st_q := [.int (i32 (1)), rv (F (me) (15 : Int))]) rfl rfl rfl rfl ?_
    refine jx_ld (pc_q := 40) (l_q := L15) (st_q := [rv (me), .int (i32 (1)), rv (F (me) (15 : Int))]) rfl (jl_rvn g16) ?_
    refine cx_gr (pc_q := 43) (c := 2) (q := 15) (v := F (me) (15 : Int)) rfl rfl (by decide) (by decide) rfl rfl o_me t_me ((show F19 (me) (15 : Int) = F9 (me) (15 : Int) from by rw [eF19]; exact uF_j (by decide)).trans ((show F9 (me) (15 : Int) = F5 (me) (15 : Int) from by rw [eF9]; exact uF_j (by decide)).trans (show F5 (me) (15 : Int) = F (me) (15 : Int) from hM7 _ _ o_me (own_z o_me) (by rw [t_me]; rfl)))) ?_
    refine jx_ar (pc_q := 44) (st_q := [.int (i32 (0)), rv (F (me) (15 : Int)), .int (i32 (1)), rv (F (me) (15 : Int))]) rfl rfl rfl rfl ?_
    refine jx_ld (pc_q := 45) (l_q := L15) (st_q := [rv (me), .int (i32 (0)), rv (F (me) (15 : Int)), .int (i32 (1)), rv (F (me) (15 : Int))]) rfl (jl_rvn g16) ?_
    refine cx_gi (pc_q := 48) (c := 2) (q := 16) (v := (F (me) (16 : Int) - 1)) rfl rfl (by decide) (by decide) (Or.inl rfl) rfl o_me t_me (show F19 (me) (16 : Int) = (F (me) (16 : Int) - 1) from by rw [eF19]; exact uF_e) ?_
    have x22 := (hC20.2.2.2.2.2 (me) o_me (own_z o_me)).2 t_me
    rw [show F19 (me) (15 : Int) = F (me) (15 : Int) from ((show F19 (me) (15 : Int) = F9 (me) (15 : Int) from by rw [eF19]; exact uF_j (by decide)).trans ((show F9 (me) (15 : Int) = F5 (me) (15 : Int) from by rw [eF9]; exact uF_j (by decide)).trans (show F5 (me) (15 : Int) = F (me) (15 : Int) from hM7 _ _ o_me (own_z o_me) (by rw [t_me]; rfl))))] at x22
    rw [show F19 (me) (16 : Int) = (F (me) (16 : Int) - 1) from (show F19 (me) (16 : Int) = (F (me) (16 : Int) - 1) from by rw [eF19]; exact uF_e)] at x22
    refine cx_cpy (pc_q := 51) (st := []) (x := 1) (y := 0) (z := (F (me) (16 : Int) - 1)) rfl rfl hC20 y12.1 y12.2.1 (show F19 (F (me) (15 : Int)) (-1) = 0 by have z := HC_n (c := 2) (q := 15) hC20 o_me t_me (own_z o_me) (by decide) rfl; rw [show F19 (me) ((15 : Nat) : Int) = F (me) (15 : Int) from ((show F19 (me) (15 : Int) = F9 (me) (15 : Int) from by rw [eF19]; exact uF_j (by decide)).trans ((show F9 (me) (15 : Int) = F5 (me) (15 : Int) from by rw [eF9]; exact uF_j (by decide)).trans (show F5 (me) (15 : Int) = F (me) (15 : Int) from hM7 _ _ o_me (own_z o_me) (by rw [t_me]; rfl))))] at z; exact z.2.2.2 (by decide)) (by omega) (by omega) (by omega) (by omega) (by omega) (by omega) (Nat.le_of_ble_eq_true rfl) rfl (fun F23 hC24 hE25 => ?_)
    have hM26 : Fq 0 [(3, 5), (3, 6), (3, 7), (3, 8), (3, 9), (3, 10), (3, 11), (3, 12), (3, 16), (3, 17), (3, 19), (3, 20), (21, -5)] m tg F F23 := Fq_w hM21 hE25 y12.2.1 (fun _ => rfl) rfl rfl
    refine jx_ld (pc_q := 52) (l_q := L15) (st_q := [rv (me)]) rfl (jl_rvn g16) ?_
    refine jx_ld (pc_q := 53) (l_q := L15) (st_q := [.int (i32 (F5 (F (me) (15 : Int)) (0 : Int))), rv (me)]) rfl (jl_iloadn g17) ?_
    refine jx_ar (pc_q := 54) (st_q := [.int (i32 (1)), .int (i32 (F5 (F (me) (15 : Int)) (0 : Int))), rv (me)]) rfl rfl rfl rfl ?_
    refine jx_and (pc_q := 55) rfl rfl ?_
    obtain ⟨z27, ez27⟩ : ∃ q, q = (i32 (F5 (F (me) (15 : Int)) (0 : Int)) &&& i32 (1)).toInt := ⟨_, rfl⟩
    rw [← ez27]
    have bz27 : (-2147483648 : Int) ≤ z27 ∧ z27 ≤ 2147483647 := ez27 ▸ i32_rg _
    have cz27 : 0 ≤ z27 ∧ z27 ≤ 1 := ez27 ▸ and_le (by decide) (by decide)
    clear ez27
    refine cx_pi (pc_q := 58) (c := 2) (q := 12) (qi := (12 : Int)) (z := z27) rfl rfl (by decide) (by decide) rfl rfl rfl (by decide) rfl o_me t_me rfl ?_
    obtain ⟨F28, eF28⟩ : ∃ q, q = uF F23 (me) (12 : Int) (z27) := ⟨_, rfl⟩
    rw [← eF28]
    have hC29 : HC 0 m tg ln F28 := by rw [eF28]; exact HC_fi (c := 2) (q := 12) hC24 t_me (by decide) rfl (by omega) (by omega) ⟨fun w => absurd w (by decide), fun _ => ⟨fun w => absurd w (by decide), fun w => absurd w (by decide)⟩⟩
    have hM30 : Fq 0 [(3, 5), (3, 6), (3, 7), (3, 8), (3, 9), (3, 10), (3, 11), (3, 12), (3, 16), (3, 17), (3, 19), (3, 20), (21, -5)] m tg F F28 := by rw [eF28]; exact Fq_p hM26 t_me (fun _ => rfl) rfl
    refine jx_ld (pc_q := 59) (l_q := L15) (st_q := [rv (me)]) rfl (jl_rvn g16) ?_
    refine jx_ld (pc_q := 60) (l_q := L15) (st_q := [.int (i32 (F5 (F (me) (15 : Int)) (0 : Int))), rv (me)]) rfl (jl_iloadn g17) ?_
    refine jx_ar (pc_q := 61) (st_q := [.int (i32 (1)), .int (i32 (F5 (F (me) (15 : Int)) (0 : Int))), rv (me)]) rfl rfl rfl rfl ?_
    refine jx_shr (pc_q := 62) rfl rfl ?_
    obtain ⟨z31, ez31⟩ : ∃ q, q = (i32 (F5 (F (me) (15 : Int)) (0 : Int)) >>> (i32 (1) &&& 31)).toInt := ⟨_, rfl⟩
    rw [← ez31]
    have bz31 : (-2147483648 : Int) ≤ z31 ∧ z31 ≤ 2147483647 := ez31 ▸ i32_rg _
    clear ez31
    refine cx_pi (pc_q := 65) (c := 2) (q := 9) (qi := (9 : Int)) (z := z31) rfl rfl (by decide) (by decide) rfl rfl rfl (by decide) rfl o_me t_me rfl ?_
    obtain ⟨F32, eF32⟩ : ∃ q, q = uF F28 (me) (9 : Int) (z31) := ⟨_, rfl⟩
    rw [← eF32]
    have hC33 : HC 0 m tg ln F32 := by rw [eF32]; exact HC_fi (c := 2) (q := 9) hC29 t_me (by decide) rfl (by omega) (by omega) ⟨fun w => absurd w (by decide), fun _ => ⟨fun w => absurd w (by decide), fun w => absurd w (by decide)⟩⟩
    have hM34 : Fq 0 [(3, 5), (3, 6), (3, 7), (3, 8), (3, 9), (3, 10), (3, 11), (3, 12), (3, 16), (3, 17), (3, 19), (3, 20), (21, -5)] m tg F F32 := by rw [eF32]; exact Fq_p hM30 t_me (fun _ => rfl) rfl
    refine jx_ld (pc_q := 66) (l_q := L15) (st_q := [rv (me)]) rfl (jl_rvn g16) ?_
    refine jx_ld (pc_q := 67) (l_q := L15) (st_q := [rv (me), rv (me)]) rfl (jl_rvn g16) ?_
    refine jx_ld (pc_q := 68) (l_q := L15) (st_q := [rv (me), rv (me), rv (me)]) rfl (jl_rvn g16) ?_
    refine cx_gi (pc_q := 71) (c := 2) (q := 9) (v := z31) rfl rfl (by decide) (by decide) (Or.inl rfl) rfl o_me t_me (show F32 (me) (9 : Int) = z31 from by rw [eF32]; exact uF_e) ?_
    refine jx_ar (pc_q := 72) (st_q := [.int (i32 (1)), .int (i32 (z31)), rv (me), rv (me)]) rfl rfl rfl rfl ?_
    refine jx_sub (pc_q := 73) rfl rfl ?_
    obtain ⟨z35, ez35⟩ : ∃ q, q = (i32 ((z31 - 1))).toInt := ⟨_, rfl⟩
    have bz35 : (-2147483648 : Int) ≤ z35 ∧ z35 ≤ 2147483647 := ez35 ▸ i32_rg _
    rw [show i32 ((z31 - 1)) = i32 z35 by rw [ez35, i32_of]]
    clear ez35
    refine cx_vi (c := 2) (a := me) (st := [rv (me)]) (as := [.int (i32 (z35))]) rfl rfl rfl o_me t_me (by decide) rfl ⟨rfl, rfl, (by rw [jS_r, jS_0]; exact Nat.le_of_ble_eq_true rfl)⟩ rfl (k_LCore_peek (dd := d) (R := R) (m := m) (tg := tg) (ln := ln) (F := F32) (me := me) (a0 := z35) (hd := by omega) (hC := hC33) (o_me := o_me) (t_me := t_me) (h_a0 := by omega)) (fun o V_q hq => ?_)
    obtain ⟨r36, rfl, rfl, b37, -⟩ := hq
    refine Or.inr (Or.inl ⟨_, rfl, ?_⟩)
    refine cx_pi (pc_q := 79) (c := 2) (q := 8) (qi := (8 : Int)) (z := r36) rfl rfl (by decide) (by decide) rfl rfl rfl (by decide) rfl o_me t_me rfl ?_
    obtain ⟨F38, eF38⟩ : ∃ q, q = uF F32 (me) (8 : Int) (r36) := ⟨_, rfl⟩
    rw [← eF38]
    have hC39 : HC 0 m tg ln F38 := by rw [eF38]; exact HC_fi (c := 2) (q := 8) hC33 t_me (by decide) rfl (by omega) (by omega) ⟨fun w => absurd w (by decide), fun _ => ⟨fun w => absurd w (by decide), fun w => absurd w (by decide)⟩⟩
    have hM40 : Fq 0 [(3, 5), (3, 6), (3, 7), (3, 8), (3, 9), (3, 10), (3, 11), (3, 12), (3, 16), (3, 17), (3, 19), (3, 20), (21, -5)] m tg F F38 := by rw [eF38]; exact Fq_p hM34 t_me (fun _ => rfl) rfl
    refine jx_ld (pc_q := 80) (l_q := L15) (st_q := [rv (me)]) rfl (jl_rvn g16) ?_
    refine cx_gi (pc_q := 83) (c := 2) (q := 12) (v := z27) rfl rfl (by decide) (by decide) (Or.inl rfl) rfl o_me t_me ((show F38 (me) (12 : Int) = F32 (me) (12 : Int) from by rw [eF38]; exact uF_j (by decide)).trans ((show F32 (me) (12 : Int) = F28 (me) (12 : Int) from by rw [eF32]; exact uF_j (by decide)).trans (show F28 (me) (12 : Int) = z27 from by rw [eF28]; exact uF_e))) ?_
    refine jx_ar (pc_q := 84) (st_q := [.int (i32 (1)), .int (i32 (z27))]) rfl rfl rfl rfl ?_
    refine jx_icmp_eq (pc_q := 87) (tg := 100) rfl rfl rfl (by omega) (by omega) (by decide) (by decide) (fun h41 => ?_) (fun h41 => ?_)
    · have _q := h41
      refine jx_ld (pc_q := 101) (l_q := L15) (st_q := [rv (me)]) rfl (jl_rvn g16) ?_
      refine cx_gi (pc_q := 104) (c := 2) (q := 20) (v := F (me) (20 : Int)) rfl rfl (by decide) (by decide) (Or.inr rfl) rfl o_me t_me ((show F38 (me) (20 : Int) = F32 (me) (20 : Int) from by rw [eF38]; exact uF_j (by decide)).trans ((show F32 (me) (20 : Int) = F28 (me) (20 : Int) from by rw [eF32]; exact uF_j (by decide)).trans ((show F28 (me) (20 : Int) = F23 (me) (20 : Int) from by rw [eF28]; exact uF_j (by decide)).trans ((show F23 (me) (20 : Int) = F19 (me) (20 : Int) from hE25.2 _ _ (fun w => by have q1 := t_me; have q2 := y12.2.1; rw [w, q2] at q1; exact absurd q1 (by decide))).trans ((show F19 (me) (20 : Int) = F9 (me) (20 : Int) from by rw [eF19]; exact uF_j (by decide)).trans ((show F9 (me) (20 : Int) = F5 (me) (20 : Int) from by rw [eF9]; exact uF_j (by decide)).trans (show F5 (me) (20 : Int) = F (me) (20 : Int) from hM7 _ _ o_me (own_z o_me) (by rw [t_me]; rfl)))))))) ?_
      have b42 : (0 : Int) ≤ F (me) (20 : Int) ∧ F (me) (20 : Int) ≤ 1 := by have z := HC_i (c := 2) (q := 20) hC39 o_me t_me (by decide) rfl; rw [show F38 (me) ((20 : Nat) : Int) = F (me) (20 : Int) from ((show F38 (me) (20 : Int) = F32 (me) (20 : Int) from by rw [eF38]; exact uF_j (by decide)).trans ((show F32 (me) (20 : Int) = F28 (me) (20 : Int) from by rw [eF32]; exact uF_j (by decide)).trans ((show F28 (me) (20 : Int) = F23 (me) (20 : Int) from by rw [eF28]; exact uF_j (by decide)).trans ((show F23 (me) (20 : Int) = F19 (me) (20 : Int) from hE25.2 _ _ (fun w => by have q1 := t_me; have q2 := y12.2.1; rw [w, q2] at q1; exact absurd q1 (by decide))).trans ((show F19 (me) (20 : Int) = F9 (me) (20 : Int) from by rw [eF19]; exact uF_j (by decide)).trans ((show F9 (me) (20 : Int) = F5 (me) (20 : Int) from by rw [eF9]; exact uF_j (by decide)).trans (show F5 (me) (20 : Int) = F (me) (20 : Int) from hM7 _ _ o_me (own_z o_me) (by rw [t_me]; rfl))))))))] at z; exact z
      refine jx_if_eq (pc_q := 107) (tg := 152) rfl rfl rfl (by omega) (by omega) (fun h43 => ?_) (fun h43 => ?_)
      · have _q := h43
        refine jx_rt (v := none) rfl rfl rfl rfl rfl rfl ?_
        exact ⟨F38, rfl, rfl, hC39, hM40, trivial⟩
      · have _q := h43
        refine jx_ld (pc_q := 108) (l_q := L15) (st_q := [rv (me)]) rfl (jl_rvn g16) ?_
        refine jx_ar (pc_q := 109) (st_q := [.int (i32 (0)), rv (me)]) rfl rfl rfl rfl ?_
        refine cx_pb (pc_q := 112) (c := 2) (q := 20) (qi := (20 : Int)) (z := 0) rfl rfl (by decide) (by decide) rfl rfl rfl (by decide) (by omega) rfl o_me t_me rfl ?_
        obtain ⟨F44, eF44⟩ : ∃ q, q = uF F38 (me) (20 : Int) (0) := ⟨_, rfl⟩
        rw [← eF44]
        have hC45 : HC 0 m tg ln F44 := by rw [eF44]; exact HC_fi (c := 2) (q := 20) hC39 t_me (by decide) rfl (by omega) (by omega) ⟨fun w => absurd w (by decide), fun _ => ⟨fun w => absurd w (by decide), fun w => absurd w (by decide)⟩⟩
        have hM46 : Fq 0 [(3, 5), (3, 6), (3, 7), (3, 8), (3, 9), (3, 10), (3, 11), (3, 12), (3, 16), (3, 17), (3, 19), (3, 20), (21, -5)] m tg F F44 := by rw [eF44]; exact Fq_p hM40 t_me (fun _ => rfl) rfl
        refine jx_ld (pc_q := 113) (l_q := L15) (st_q := [rv (me)]) rfl (jl_rvn g16) ?_
        refine jx_ld (pc_q := 114) (l_q := L15) (st_q := [rv (me), rv (me)]) rfl (jl_rvn g16) ?_
        refine cx_gr (pc_q := 117) (c := 2) (q := 21) (v := F (me) (21 : Int)) rfl rfl (by decide) (by decide) rfl rfl o_me t_me ((show F44 (me) (21 : Int) = F38 (me) (21 : Int) from by rw [eF44]; exact uF_j (by decide)).trans ((show F38 (me) (21 : Int) = F32 (me) (21 : Int) from by rw [eF38]; exact uF_j (by decide)).trans ((show F32 (me) (21 : Int) = F28 (me) (21 : Int) from by rw [eF32]; exact uF_j (by decide)).trans ((show F28 (me) (21 : Int) = F23 (me) (21 : Int) from by rw [eF28]; exact uF_j (by decide)).trans ((show F23 (me) (21 : Int) = F19 (me) (21 : Int) from hE25.2 _ _ (fun w => by have q1 := t_me; have q2 := y12.2.1; rw [w, q2] at q1; exact absurd q1 (by decide))).trans ((show F19 (me) (21 : Int) = F9 (me) (21 : Int) from by rw [eF19]; exact uF_j (by decide)).trans ((show F9 (me) (21 : Int) = F5 (me) (21 : Int) from by rw [eF9]; exact uF_j (by decide)).trans (show F5 (me) (21 : Int) = F (me) (21 : Int) from hM7 _ _ o_me (own_z o_me) (by rw [t_me]; rfl))))))))) ?_
        have y47 : own m (F (me) (21 : Int)) ∧ tg (F (me) (21 : Int)) = 21 ∧ ((4 : Int) ≠ 0 → ln (F (me) (21 : Int)) = 4) := by have z := HC_n (c := 2) (q := 21) hC45 o_me t_me (own_z o_me) (by decide) rfl; rw [show F44 (me) ((21 : Nat) : Int) = F (me) (21 : Int) from ((show F44 (me) (21 : Int) = F38 (me) (21 : Int) from by rw [eF44]; exact uF_j (by decide)).trans ((show F38 (me) (21 : Int) = F32 (me) (21 : Int) from by rw [eF38]; exact uF_j (by decide)).trans ((show F32 (me) (21 : Int) = F28 (me) (21 : Int) from by rw [eF32]; exact uF_j (by decide)).trans ((show F28 (me) (21 : Int) = F23 (me) (21 : Int) from by rw [eF28]; exact uF_j (by decide)).trans ((show F23 (me) (21 : Int) = F19 (me) (21 : Int) from hE25.2 _ _ (fun w => by have q1 := t_me; have q2 := y12.2.1; rw [w, q2] at q1; exact absurd q1 (by decide))).trans ((show F19 (me) (21 : Int) = F9 (me) (21 : Int) from by rw [eF19]; exact uF_j (by decide)).trans ((show F9 (me) (21 : Int) = F5 (me) (21 : Int) from by rw [eF9]; exact uF_j (by decide)).trans (show F5 (me) (21 : Int) = F (me) (21 : Int) from hM7 _ _ o_me (own_z o_me) (by rw [t_me]; rfl)))))))))] at z; exact ⟨z.1, z.2.1, z.2.2.1⟩
        have ly47 : ln (F (me) (21 : Int)) = 4 := y47.2.2 (by decide)
        refine jx_ar (pc_q := 118) (st_q := [.int (i32 (0)), rv (F (me) (21 : Int)), rv (me)]) rfl rfl rfl rfl ?_
        have b48 := HC_l hC45 y47.1 y47.2.1 (by decide)
        refine cx_ial (pc_q := 119) (z := 0) rfl rfl y47.1 y47.2.1 (by omega) (by omega) (by omega) ?_
        rw [show F44 (F (me) (21 : Int)) (0) = F23 (F (me) (21 : Int)) (0 : Int) from ((show F44 (F (me) (21 : Int)) (0 : Int) = F38 (F (me) (21 : Int)) (0 : Int) from by rw [eF44]; exact uF_j (by decide)).trans ((show F38 (F (me) (21 : Int)) (0 : Int) = F32 (F (me) (21 : Int)) (0 : Int) from by rw [eF38]; exact uF_j (by decide)).trans ((show F32 (F (me) (21 : Int)) (0 : Int) = F28 (F (me) (21 : Int)) (0 : Int) from by rw [eF32]; exact uF_j (by decide)).trans (show F28 (F (me) (21 : Int)) (0 : Int) = F23 (F (me) (21 : Int)) (0 : Int) from by rw [eF28]; exact uF_j (by decide)))))]
        have b49 : (-2147483648 : Int) ≤ F23 (F (me) (21 : Int)) (0 : Int) ∧ F23 (F (me) (21 : Int)) (0 : Int) ≤ 2147483647 := by have z := HC_ei (j := 0) hC45 y47.1 (by rw [y47.2.1]; decide) (by omega); rw [show F44 (F (me) (21 : Int)) (0) = F23 (F (me) (21 : Int)) (0 : Int) from ((show F44 (F (me) (21 : Int)) (0 : Int) = F38 (F (me) (21 : Int)) (0 : Int) from by rw [eF44]; exact uF_j (by decide)).trans ((show F38 (F (me) (21 : Int)) (0 : Int) = F32 (F (me) (21 : Int)) (0 : Int) from by rw [eF38]; exact uF_j (by decide)).trans ((show F32 (F (me) (21 : Int)) (0 : Int) = F28 (F (me) (21 : Int)) (0 : Int) from by rw [eF32]; exact uF_j (by decide)).trans (show F28 (F (me) (21 : Int)) (0 : Int) = F23 (F (me) (21 : Int)) (0 : Int) from by rw [eF28]; exact uF_j (by decide)))))] at z; exact z
        refine cx_pi (pc_q := 122) (c := 2) (q := 5) (qi := (5 : Int)) (z := F23 (F (me) (21 : Int)) (0 : Int)) rfl rfl (by decide) (by decide) rfl rfl rfl (by decide) rfl o_me t_me rfl ?_
        obtain ⟨F50, eF50⟩ : ∃ q, q = uF F44 (me) (5 : Int) (F23 (F (me) (21 : Int)) (0 : Int)) := ⟨_, rfl⟩
        rw [← eF50]
        have hC51 : HC 0 m tg ln F50 := by rw [eF50]; exact HC_fi (c := 2) (q := 5) hC45 t_me (by decide) rfl (by omega) (by omega) ⟨fun w => absurd w (by decide), fun _ => ⟨fun w => absurd w (by decide), fun w => absurd w (by decide)⟩⟩
        have hM52 : Fq 0 [(3, 5), (3, 6), (3, 7), (3, 8), (3, 9), (3, 10), (3, 11), (3, 12), (3, 16), (3, 17), (3, 19), (3, 20), (21, -5)] m tg F F50 := by rw [eF50]; exact Fq_p hM46 t_me (fun _ => rfl) rfl
        refine jx_ld (pc_q := 123) (l_q := L15) (st_q := [rv (me)]) rfl (jl_rvn g16) ?_
        refine jx_ld (pc_q := 124) (l_q := L15) (st_q := [rv (me), rv (me)]) rfl (jl_rvn g16) ?_
        refine cx_gr (pc_q := 127) (c := 2) (q := 21) (v := F (me) (21 : Int)) rfl rfl (by decide) (by decide) rfl rfl o_me t_me ((show F50 (me) (21 : Int) = F44 (me) (21 : Int) from by rw [eF50]; exact uF_j (by decide)).trans ((show F44 (me) (21 : Int) = F38 (me) (21 : Int) from by rw [eF44]; exact uF_j (by decide)).trans ((show F38 (me) (21 : Int) = F32 (me) (21 : Int) from by rw [eF38]; exact uF_j (by decide)).trans ((show F32 (me) (21 : Int) = F28 (me) (21 : Int) from by rw [eF32]; exact uF_j (by decide)).trans ((show F28 (me) (21 : Int) = F23 (me) (21 : Int) from by rw [eF28]; exact uF_j (by decide)).trans ((show F23 (me) (21 : Int) = F19 (me) (21 : Int) from hE25.2 _ _ (fun w => by have q1 := t_me; have q2 := y12.2.1; rw [w, q2] at q1; exact absurd q1 (by decide))).trans ((show F19 (me) (21 : Int) = F9 (me) (21 : Int) from by rw [eF19]; exact uF_j (by decide)).trans ((show F9 (me) (21 : Int) = F5 (me) (21 : Int) from by rw [eF9]; exact uF_j (by decide)).trans (show F5 (me) (21 : Int) = F (me) (21 : Int) from hM7 _ _ o_me (own_z o_me) (by rw [t_me]; rfl)))))))))) ?_
        refine jx_ar (pc_q := 128) (st_q := [.int (i32 (1)), rv (F (me) (21 : Int)), rv (me)]) rfl rfl rfl rfl ?_
        refine cx_ial (pc_q := 129) (z := 1) rfl rfl y47.1 y47.2.1 (by omega) (by omega) (by omega) ?_
        rw [show F50 (F (me) (21 : Int)) (1) = F23 (F (me) (21 : Int)) (1 : Int) from ((show F50 (F (me) (21 : Int)) (1 : Int) = F44 (F (me) (21 : Int)) (1 : Int) from by rw [eF50]; exact uF_j (by decide)).trans ((show F44 (F (me) (21 : Int)) (1 : Int) = F38 (F (me) (21 : Int)) (1 : Int) from by rw [eF44]; exact uF_j (by decide)).trans ((show F38 (F (me) (21 : Int)) (1 : Int) = F32 (F (me) (21 : Int)) (1 : Int) from by rw [eF38]; exact uF_j (by decide)).trans ((show F32 (F (me) (21 : Int)) (1 : Int) = F28 (F (me) (21 : Int)) (1 : Int) from by rw [eF32]; exact uF_j (by decide)).trans (show F28 (F (me) (21 : Int)) (1 : Int) = F23 (F (me) (21 : Int)) (1 : Int) from by rw [eF28]; exact uF_j (by decide))))))]
        have b53 : (-2147483648 : Int) ≤ F23 (F (me) (21 : Int)) (1 : Int) ∧ F23 (F (me) (21 : Int)) (1 : Int) ≤ 2147483647 := by have z := HC_ei (j := 1) hC51 y47.1 (by rw [y47.2.1]; decide) (by omega); rw [show F50 (F (me) (21 : Int)) (1) = F23 (F (me) (21 : Int)) (1 : Int) from ((show F50 (F (me) (21 : Int)) (1 : Int) = F44 (F (me) (21 : Int)) (1 : Int) from by rw [eF50]; exact uF_j (by decide)).trans ((show F44 (F (me) (21 : Int)) (1 : Int) = F38 (F (me) (21 : Int)) (1 : Int) from by rw [eF44]; exact uF_j (by decide)).trans ((show F38 (F (me) (21 : Int)) (1 : Int) = F32 (F (me) (21 : Int)) (1 : Int) from by rw [eF38]; exact uF_j (by decide)).trans ((show F32 (F (me) (21 : Int)) (1 : Int) = F28 (F (me) (21 : Int)) (1 : Int) from by rw [eF32]; exact uF_j (by decide)).trans (show F28 (F (me) (21 : Int)) (1 : Int) = F23 (F (me) (21 : Int)) (1 : Int) from by rw [eF28]; exact uF_j (by decide))))))] at z; exact z
        refine cx_pi (pc_q := 132) (c := 2) (q := 6) (qi := (6 : Int)) (z := F23 (F (me) (21 : Int)) (1 : Int)) rfl rfl (by decide) (by decide) rfl rfl rfl (by decide) rfl o_me t_me rfl ?_
        obtain ⟨F54, eF54⟩ : ∃ q, q = uF F50 (me) (6 : Int) (F23 (F (me) (21 : Int)) (1 : Int)) := ⟨_, rfl⟩
        rw [← eF54]
        have hC55 : HC 0 m tg ln F54 := by rw [eF54]; exact HC_fi (c := 2) (q := 6) hC51 t_me (by decide) rfl (by omega) (by omega) ⟨fun w => absurd w (by decide), fun _ => ⟨fun w => absurd w (by decide), fun w => absurd w (by decide)⟩⟩
        have hM56 : Fq 0 [(3, 5), (3, 6), (3, 7), (3, 8), (3, 9), (3, 10), (3, 11), (3, 12), (3, 16), (3, 17), (3, 19), (3, 20), (21, -5)] m tg F F54 := by rw [eF54]; exact Fq_p hM52 t_me (fun _ => rfl) rfl
        refine jx_ld (pc_q := 133) (l_q := L15) (st_q := [rv (me)]) rfl (jl_rvn g16) ?_
        refine jx_ld (pc_q := 134) (l_q := L15) (st_q := [rv (me), rv (me)]) rfl (jl_rvn g16) ?_
        refine cx_gr (pc_q := 137) (c := 2) (q := 21) (v := F (me) (21 : Int)) rfl rfl (by decide) (by decide) rfl rfl o_me t_me ((show F54 (me) (21 : Int) = F50 (me) (21 : Int) from by rw [eF54]; exact uF_j (by decide)).trans ((show F50 (me) (21 : Int) = F44 (me) (21 : Int) from by rw [eF50]; exact uF_j (by decide)).trans ((show F44 (me) (21 : Int) = F38 (me) (21 : Int) from by rw [eF44]; exact uF_j (by decide)).trans ((show F38 (me) (21 : Int) = F32 (me) (21 : Int) from by rw [eF38]; exact uF_j (by decide)).trans ((show F32 (me) (21 : Int) = F28 (me) (21 : Int) from by rw [eF32]; exact uF_j (by decide)).trans ((show F28 (me) (21 : Int) = F23 (me) (21 : Int) from by rw [eF28]; exact uF_j (by decide)).trans ((show F23 (me) (21 : Int) = F19 (me) (21 : Int) from hE25.2 _ _ (fun w => by have q1 := t_me; have q2 := y12.2.1; rw [w, q2] at q1; exact absurd q1 (by decide))).trans ((show F19 (me) (21 : Int) = F9 (me) (21 : Int) from by rw [eF19]; exact uF_j (by decide)).trans ((show F9 (me) (21 : Int) = F5 (me) (21 : Int) from by rw [eF9]; exact uF_j (by decide)).trans (show F5 (me) (21 : Int) = F (me) (21 : Int) from hM7 _ _ o_me (own_z o_me) (by rw [t_me]; rfl))))))))))) ?_
        refine jx_ar (pc_q := 138) (st_q := [.int (i32 (2)), rv (F (me) (21 : Int)), rv (me)]) rfl rfl rfl rfl ?_
        refine cx_ial (pc_q := 139) (z := 2) rfl rfl y47.1 y47.2.1 (by omega) (by omega) (by omega) ?_
        rw [show F54 (F (me) (21 : Int)) (2) = F23 (F (me) (21 : Int)) (2 : Int) from ((show F54 (F (me) (21 : Int)) (2 : Int) = F50 (F (me) (21 : Int)) (2 : Int) from by rw [eF54]; exact uF_j (by decide)).trans ((show F50 (F (me) (21 : Int)) (2 : Int) = F44 (F (me) (21 : Int)) (2 : Int) from by rw [eF50]; exact uF_j (by decide)).trans ((show F44 (F (me) (21 : Int)) (2 : Int) = F38 (F (me) (21 : Int)) (2 : Int) from by rw [eF44]; exact uF_j (by decide)).trans ((show F38 (F (me) (21 : Int)) (2 : Int) = F32 (F (me) (21 : Int)) (2 : Int) from by rw [eF38]; exact uF_j (by decide)).trans ((show F32 (F (me) (21 : Int)) (2 : Int) = F28 (F (me) (21 : Int)) (2 : Int) from by rw [eF32]; exact uF_j (by decide)).trans (show F28 (F (me) (21 : Int)) (2 : Int) = F23 (F (me) (21 : Int)) (2 : Int) from by rw [eF28]; exact uF_j (by decide)))))))]
        have b57 : (-2147483648 : Int) ≤ F23 (F (me) (21 : Int)) (2 : Int) ∧ F23 (F (me) (21 : Int)) (2 : Int) ≤ 2147483647 := by have z := HC_ei (j := 2) hC55 y47.1 (by rw [y47.2.1]; decide) (by omega); rw [show F54 (F (me) (21 : Int)) (2) = F23 (F (me) (21 : Int)) (2 : Int) from ((show F54 (F (me) (21 : Int)) (2 : Int) = F50 (F (me) (21 : Int)) (2 : Int) from by rw [eF54]; exact uF_j (by decide)).trans ((show F50 (F (me) (21 : Int)) (2 : Int) = F44 (F (me) (21 : Int)) (2 : Int) from by rw [eF50]; exact uF_j (by decide)).trans ((show F44 (F (me) (21 : Int)) (2 : Int) = F38 (F (me) (21 : Int)) (2 : Int) from by rw [eF44]; exact uF_j (by decide)).trans ((show F38 (F (me) (21 : Int)) (2 : Int) = F32 (F (me) (21 : Int)) (2 : Int) from by rw [eF38]; exact uF_j (by decide)).trans ((show F32 (F (me) (21 : Int)) (2 : Int) = F28 (F (me) (21 : Int)) (2 : Int) from by rw [eF32]; exact uF_j (by decide)).trans (show F28 (F (me) (21 : Int)) (2 : Int) = F23 (F (me) (21 : Int)) (2 : Int) from by rw [eF28]; exact uF_j (by decide)))))))] at z; exact z
        refine cx_pi (pc_q := 142) (c := 2) (q := 7) (qi := (7 : Int)) (z := F23 (F (me) (21 : Int)) (2 : Int)) rfl rfl (by decide) (by decide) rfl rfl rfl (by decide) rfl o_me t_me rfl ?_
        obtain ⟨F58, eF58⟩ : ∃ q, q = uF F54 (me) (7 : Int) (F23 (F (me) (21 : Int)) (2 : Int)) := ⟨_, rfl⟩
        rw [← eF58]
        have hC59 : HC 0 m tg ln F58 := by rw [eF58]; exact HC_fi (c := 2) (q := 7) hC55 t_me (by decide) rfl (by omega) (by omega) ⟨fun w => absurd w (by decide), fun _ => ⟨fun w => absurd w (by decide), fun w => absurd w (by decide)⟩⟩
        have hM60 : Fq 0 [(3, 5), (3, 6), (3, 7), (3, 8), (3, 9), (3, 10), (3, 11), (3, 12), (3, 16), (3, 17), (3, 19), (3, 20), (21, -5)] m tg F F58 := by rw [eF58]; exact Fq_p hM56 t_me (fun _ => rfl) rfl
        refine jx_ld (pc_q := 143) (l_q := L15) (st_q := [rv (me)]) rfl (jl_rvn g16) ?_
        refine jx_ld (pc_q := 144) (l_q := L15) (st_q := [rv (me), rv (me)]) rfl (jl_rvn g16) ?_
        refine cx_gr (pc_q := 147) (c := 2) (q := 21) (v := F (me) (21 : Int)) rfl rfl (by decide) (by decide) rfl rfl o_me t_me ((show F58 (me) (21 : Int) = F54 (me) (21 : Int) from by rw [eF58]; exact uF_j (by decide)).trans ((show F54 (me) (21 : Int) = F50 (me) (21 : Int) from by rw [eF54]; exact uF_j (by decide)).trans ((show F50 (me) (21 : Int) = F44 (me) (21 : Int) from by rw [eF50]; exact uF_j (by decide)).trans ((show F44 (me) (21 : Int) = F38 (me) (21 : Int) from by rw [eF44]; exact uF_j (by decide)).trans ((show F38 (me) (21 : Int) = F32 (me) (21 : Int) from by rw [eF38]; exact uF_j (by decide)).trans ((show F32 (me) (21 : Int) = F28 (me) (21 : Int) from by rw [eF32]; exact uF_j (by decide)).trans ((show F28 (me) (21 : Int) = F23 (me) (21 : Int) from by rw [eF28]; exact uF_j (by decide)).trans ((show F23 (me) (21 : Int) = F19 (me) (21 : Int) from hE25.2 _ _ (fun w => by have q1 := t_me; have q2 := y12.2.1; rw [w, q2] at q1; exact absurd q1 (by decide))).trans ((show F19 (me) (21 : Int) = F9 (me) (21 : Int) from by rw [eF19]; exact uF_j (by decide)).trans ((show F9 (me) (21 : Int) = F5 (me) (21 : Int) from by rw [eF9]; exact uF_j (by decide)).trans (show F5 (me) (21 : Int) = F (me) (21 : Int) from hM7 _ _ o_me (own_z o_me) (by rw [t_me]; rfl)))))))))))) ?_
        refine jx_ar (pc_q := 148) (st_q := [.int (i32 (3)), rv (F (me) (21 : Int)), rv (me)]) rfl rfl rfl rfl ?_
        refine cx_ial (pc_q := 149) (z := 3) rfl rfl y47.1 y47.2.1 (by omega) (by omega) (by omega) ?_
        rw [show F58 (F (me) (21 : Int)) (3) = F23 (F (me) (21 : Int)) (3 : Int) from ((show F58 (F (me) (21 : Int)) (3 : Int) = F54 (F (me) (21 : Int)) (3 : Int) from by rw [eF58]; exact uF_j (by decide)).trans ((show F54 (F (me) (21 : Int)) (3 : Int) = F50 (F (me) (21 : Int)) (3 : Int) from by rw [eF54]; exact uF_j (by decide)).trans ((show F50 (F (me) (21 : Int)) (3 : Int) = F44 (F (me) (21 : Int)) (3 : Int) from by rw [eF50]; exact uF_j (by decide)).trans ((show F44 (F (me) (21 : Int)) (3 : Int) = F38 (F (me) (21 : Int)) (3 : Int) from by rw [eF44]; exact uF_j (by decide)).trans ((show F38 (F (me) (21 : Int)) (3 : Int) = F32 (F (me) (21 : Int)) (3 : Int) from by rw [eF38]; exact uF_j (by decide)).trans ((show F32 (F (me) (21 : Int)) (3 : Int) = F28 (F (me) (21 : Int)) (3 : Int) from by rw [eF32]; exact uF_j (by decide)).trans (show F28 (F (me) (21 : Int)) (3 : Int) = F23 (F (me) (21 : Int)) (3 : Int) from by rw [eF28]; exact uF_j (by decide))))))))]
        have b61 : (-2147483648 : Int) ≤ F23 (F (me) (21 : Int)) (3 : Int) ∧ F23 (F (me) (21 : Int)) (3 : Int) ≤ 2147483647 := by have z := HC_ei (j := 3) hC59 y47.1 (by rw [y47.2.1]; decide) (by omega); rw [show F58 (F (me) (21 : Int)) (3) = F23 (F (me) (21 : Int)) (3 : Int) from ((show F58 (F (me) (21 : Int)) (3 : Int) = F54 (F (me) (21 : Int)) (3 : Int) from by rw [eF58]; exact uF_j (by decide)).trans ((show F54 (F (me) (21 : Int)) (3 : Int) = F50 (F (me) (21 : Int)) (3 : Int) from by rw [eF54]; exact uF_j (by decide)).trans ((show F50 (F (me) (21 : Int)) (3 : Int) = F44 (F (me) (21 : Int)) (3 : Int) from by rw [eF50]; exact uF_j (by decide)).trans ((show F44 (F (me) (21 : Int)) (3 : Int) = F38 (F (me) (21 : Int)) (3 : Int) from by rw [eF44]; exact uF_j (by decide)).trans ((show F38 (F (me) (21 : Int)) (3 : Int) = F32 (F (me) (21 : Int)) (3 : Int) from by rw [eF38]; exact uF_j (by decide)).trans ((show F32 (F (me) (21 : Int)) (3 : Int) = F28 (F (me) (21 : Int)) (3 : Int) from by rw [eF32]; exact uF_j (by decide)).trans (show F28 (F (me) (21 : Int)) (3 : Int) = F23 (F (me) (21 : Int)) (3 : Int) from by rw [eF28]; exact uF_j (by decide))))))))] at z; exact z
        refine cx_pi (pc_q := 152) (c := 2) (q := 10) (qi := (10 : Int)) (z := F23 (F (me) (21 : Int)) (3 : Int)) rfl rfl (by decide) (by decide) rfl rfl rfl (by decide) rfl o_me t_me rfl ?_
        obtain ⟨F62, eF62⟩ : ∃ q, q = uF F58 (me) (10 : Int) (F23 (F (me) (21 : Int)) (3 : Int)) := ⟨_, rfl⟩
        rw [← eF62]
        have hC63 : HC 0 m tg ln F62 := by rw [eF62]; exact HC_fi (c := 2) (q := 10) hC59 t_me (by decide) rfl (by omega) (by omega) ⟨fun w => absurd w (by decide), fun _ => ⟨fun w => absurd w (by decide), fun w => absurd w (by decide)⟩⟩
        have hM64 : Fq 0 [(3, 5), (3, 6), (3, 7), (3, 8), (3, 9), (3, 10), (3, 11), (3, 12), (3, 16), (3, 17), (3, 19), (3, 20), (21, -5)] m tg F F62 := by rw [eF62]; exact Fq_p hM60 t_me (fun _ => rfl) rfl
        refine jx_rt (v := none) rfl rfl rfl rfl rfl rfl ?_
        exact ⟨F62, rfl, rfl, hC63, hM64, trivial⟩
    · have _q := h41
      refine jx_ld (pc_q := 88) (l_q := L15) (st_q := [rv (me)]) rfl (jl_rvn g16) ?_
      refine jx_ar (pc_q := 89) (st_q := [rv (me), rv (me)]) rfl rfl ja_dup rfl ?_
      refine cx_gi (pc_q := 92) (c := 2) (q := 17) (v := F (me) (17 : Int)) rfl rfl (by decide) (by decide) (Or.inl rfl) rfl o_me t_me ((show F38 (me) (17 : Int) = F32 (me) (17 : Int) from by rw [eF38]; exact uF_j (by decide)).trans ((show F32 (me) (17 : Int) = F28 (me) (17 : Int) from by rw [eF32]; exact uF_j (by decide)).trans ((show F28 (me) (17 : Int) = F23 (me) (17 : Int) from by rw [eF28]; exact uF_j (by decide)).trans ((show F23 (me) (17 : Int) = F19 (me) (17 : Int) from hE25.2 _ _ (fun w => by have q1 := t_me; have q2 := y12.2.1; rw [w, q2] at q1; exact absurd q1 (by decide))).trans ((show F19 (me) (17 : Int) = F9 (me) (17 : Int) from by rw [eF19]; exact uF_j (by decide)).trans ((show F9 (me) (17 : Int) = F5 (me) (17 : Int) from by rw [eF9]; exact uF_j (by decide)).trans (show F5 (me) (17 : Int) = F (me) (17 : Int) from hM7 _ _ o_me (own_z o_me) (by rw [t_me]; rfl)))))))) ?_
      have b65 : (-2147483648 : Int) ≤ F (me) (17 : Int) ∧ F (me) (17 : Int) ≤ 2147483647 := by have z := HC_i (c := 2) (q := 17) hC39 o_me t_me (by decide) rfl; rw [show F38 (me) ((17 : Nat) : Int) = F (me) (17 : Int) from ((show F38 (me) (17 : Int) = F32 (me) (17 : Int) from by rw [eF38]; exact uF_j (by decide)).trans ((show F32 (me) (17 : Int) = F28 (me) (17 : Int) from by rw [eF32]; exact uF_j (by decide)).trans ((show F28 (me) (17 : Int) = F23 (me) (17 : Int) from by rw [eF28]; exact uF_j (by decide)).trans ((show F23 (me) (17 : Int) = F19 (me) (17 : Int) from hE25.2 _ _ (fun w => by have q1 := t_me; have q2 := y12.2.1; rw [w, q2] at q1; exact absurd q1 (by decide))).trans ((show F19 (me) (17 : Int) = F9 (me) (17 : Int) from by rw [eF19]; exact uF_j (by decide)).trans ((show F9 (me) (17 : Int) = F5 (me) (17 : Int) from by rw [eF9]; exact uF_j (by decide)).trans (show F5 (me) (17 : Int) = F (me) (17 : Int) from hM7 _ _ o_me (own_z o_me) (by rw [t_me]; rfl))))))))] at z; exact z
      refine jx_ar (pc_q := 93) (st_q := [.int (i32 (1)), .int (i32 (F (me) (17 : Int))), rv (me)]) rfl rfl rfl rfl ?_
      refine jx_sub (pc_q := 94) rfl rfl ?_
      obtain ⟨z66, ez66⟩ : ∃ q, q = (i32 ((F (me) (17 : Int) - 1))).toInt := ⟨_, rfl⟩
      have bz66 : (-2147483648 : Int) ≤ z66 ∧ z66 ≤ 2147483647 := ez66 ▸ i32_rg _
      rw [show i32 ((F (me) (17 : Int) - 1)) = i32 z66 by rw [ez66, i32_of]]
      clear ez66
      refine cx_pi (pc_q := 97) (c := 2) (q := 17) (qi := (17 : Int)) (z := z66) rfl rfl (by decide) (by decide) rfl rfl rfl (by decide) rfl o_me t_me rfl ?_
      obtain ⟨F67, eF67⟩ : ∃ q, q = uF F38 (me) (17 : Int) (z66) := ⟨_, rfl⟩
      rw [← eF67]
      have hC68 : HC 0 m tg ln F67 := by rw [eF67]; exact HC_fi (c := 2) (q := 17) hC39 t_me (by decide) rfl (by omega) (by omega) ⟨fun w => absurd w (by decide), fun _ => ⟨fun w => absurd w (by decide), fun w => absurd w (by decide)⟩⟩
      have hM69 : Fq 0 [(3, 5), (3, 6), (3, 7), (3, 8), (3, 9), (3, 10), (3, 11), (3, 12), (3, 16), (3, 17), (3, 19), (3, 20), (21, -5)] m tg F F67 := by rw [eF67]; exact Fq_p hM40 t_me (fun _ => rfl) rfl
      refine jx_go (tg := 152) rfl rfl ?_
      refine jx_rt (v := none) rfl rfl rfl rfl rfl rfl ?_
      exact ⟨F67, rfl, rfl, hC68, hM69, trivial⟩
  · have _q := h4
    refine jx_rt (v := none) rfl rfl rfl rfl rfl rfl ?_
    exact ⟨F, rfl, rfl, hC, hM0, trivial⟩
set_option maxRecDepth 20000 in
set_option maxHeartbeats 4000000 in
theorem k_LCore_settle {X : jX} {dd : Nat} {R : Nat → jC} {m : Nat} {tg ln : Int → Int} {F : Int → Int → Int} {me : Int} (hd : 3 ≤ dd) (hC : HC 0 m tg ln F) (o_me : own m me) (t_me : tg me = 3) : wk X dd 97 [rv me] (cV R m tg ln F) (fun o V_q => ∃ (F_q : Int → Int → Int), V_q = cV R m tg ln F_q ∧ o = .inl none ∧ HC 0 m tg ln F_q ∧ Fq 0 [(3, 5), (3, 6), (3, 7), (3, 8), (3, 9), (3, 10), (3, 11), (3, 12), (3, 16), (3, 17), (3, 19), (3, 20), (21, -5)] m tg F F_q ∧ True) := by
  obtain ⟨d, rfl⟩ : ∃ d, dd = d + 1 := ⟨dd - 1, by omega⟩
  refine wk_of (e := jm97) rfl (by rw [jS_r, jS_0]; exact Nat.le_of_ble_eq_true rfl) ?_
  rw [la_r, la_0]
  show wj X d jm97 (0, [(0, rv (me))], [], cV R m tg ln F) _
  have hM0 : Fq 0 [(3, 5), (3, 6), (3, 7), (3, 8), (3, 9), (3, 10), (3, 11), (3, 12), (3, 16), (3, 17), (3, 19), (3, 20), (21, -5)] m tg F F := Fq_r
  obtain ⟨L0, eL0⟩ : ∃ q : jL, q = [(0, rv (me))] := ⟨_, rfl⟩
  rw [← eL0]
  have g1 : jGet L0 0 = some (rv (me)) := eL0 ▸ (rfl : jGet [(0, rv (me))] 0 = some (rv (me)))
  clear eL0
  refine jx_ld (pc_q := 1) (l_q := L0) (st_q := [rv (me)]) rfl (jl_rvn g1) ?_
  refine cx_gi (pc_q := 4) (c := 2) (q := 11) (v := F (me) (11 : Int)) rfl rfl (by decide) (by decide) (Or.inr rfl) rfl o_me t_me rfl ?_
  have b2 : (0 : Int) ≤ F (me) (11 : Int) ∧ F (me) (11 : Int) ≤ 1 := by have z := HC_i (c := 2) (q := 11) hC o_me t_me (by decide) rfl; rw [show F (me) ((11 : Nat) : Int) = F (me) (11 : Int) from rfl] at z; exact z
  refine jx_if_eq (pc_q := 7) (tg := 23) rfl rfl rfl (by omega) (by omega) (fun h3 => ?_) (fun h3 => ?_)
  · have _q := h3
    refine jx_ld (pc_q := 24) (l_q := L0) (st_q := [rv (me)]) rfl (jl_rvn g1) ?_
    refine cx_gi (pc_q := 27) (c := 2) (q := 11) (v := F (me) (11 : Int)) rfl rfl (by decide) (by decide) (Or.inr rfl) rfl o_me t_me rfl ?_
    refine jx_if_eq (pc_q := 30) (tg := 105) rfl rfl rfl (by omega) (by omega) (fun h4 => ?_) (fun h4 => ?_)
    · have _q := h4
      refine jx_ld (pc_q := 106) (l_q := L0) (st_q := [rv (me)]) rfl (jl_rvn g1) ?_
      refine cx_vi (c := 2) (a := me) (st := []) (as := []) rfl rfl rfl o_me t_me (by decide) rfl ⟨rfl, rfl, (Nat.le_of_ble_eq_true rfl)⟩ rfl (k_LCore_dispatch (dd := d) (R := R) (m := m) (tg := tg) (ln := ln) (F := F) (me := me) (hd := by omega) (hC := hC) (o_me := o_me) (t_me := t_me)) (fun o V_q hq => ?_)
      obtain ⟨F5, rfl, rfl, hC6, hM7, -⟩ := hq
      have hM8 : Fq 0 [(3, 5), (3, 6), (3, 7), (3, 8), (3, 9), (3, 10), (3, 11), (3, 12), (3, 16), (3, 17), (3, 19), (3, 20), (21, -5)] m tg F F5 := Fq_t (ln := ln) (ln1 := ln) hM0 Ex_r hM7 (by decide) (Or.inl rfl)
      refine Or.inl ⟨rfl, ?_⟩
      refine jx_rt (v := none) rfl rfl rfl rfl rfl rfl ?_
      exact ⟨F5, rfl, rfl, hC6, hM8, trivial⟩
    · have _q := h4
      refine jx_ld (pc_q := 31) (l_q := L0) (st_q := [rv (me)]) rfl (jl_rvn g1) ?_
      refine jx_ld (pc_q := 32) (l_q := L0) (st_q := [rv (me), rv (me)]) rfl (jl_rvn g1) ?_
      refine cx_gi (pc_q := 35) (c := 2) (q := 9) (v := F (me) (9 : Int)) rfl rfl (by decide) (by decide) (Or.inl rfl) rfl o_me t_me rfl ?_
      have b9 : (-2147483648 : Int) ≤ F (me) (9 : Int) ∧ F (me) (9 : Int) ≤ 2147483647 := by have z := HC_i (c := 2) (q := 9) hC o_me t_me (by decide) rfl; rw [show F (me) ((9 : Nat) : Int) = F (me) (9 : Int) from rfl] at z; exact z
      refine jx_ar (pc_q := 36) (st_q := [.int (i32 (1)), .int (i32 (F (me) (9 : Int))), rv (me)]) rfl rfl rfl rfl ?_
      refine jx_sub (pc_q := 37) rfl rfl ?_
      obtain ⟨z10, ez10⟩ : ∃ q, q = (i32 ((F (me) (9 : Int) - 1))).toInt := ⟨_, rfl⟩
      have bz10 : (-2147483648 : Int) ≤ z10 ∧ z10 ≤ 2147483647 := ez10 ▸ i32_rg _
      rw [show i32 ((F (me) (9 : Int) - 1)) = i32 z10 by rw [ez10, i32_of]]
      clear ez10
      refine jx_ld (pc_q := 38) (l_q := L0) (st_q := [rv (me), .int (i32 (z10)), rv (me)]) rfl (jl_rvn g1) ?_
      refine cx_gi (pc_q := 41) (c := 2) (q := 8) (v := F (me) (8 : Int)) rfl rfl (by decide) (by decide) (Or.inl rfl) rfl o_me t_me rfl ?_
      have b11 : (-2147483648 : Int) ≤ F (me) (8 : Int) ∧ F (me) (8 : Int) ≤ 2147483647 := by have z := HC_i (c := 2) (q := 8) hC o_me t_me (by decide) rfl; rw [show F (me) ((8 : Nat) : Int) = F (me) (8 : Int) from rfl] at z; exact z
      refine cx_vi (c := 2) (a := me) (st := []) (as := [.int (i32 (z10)), .int (i32 (F (me) (8 : Int)))]) rfl rfl rfl o_me t_me (by decide) rfl ⟨rfl, rfl, (Nat.le_of_ble_eq_true rfl)⟩ rfl (k_LCore_poke (dd := d) (R := R) (m := m) (tg := tg) (ln := ln) (F := F) (me := me) (a0 := z10) (a1 := F (me) (8 : Int)) (hd := by omega) (hC := hC) (o_me := o_me) (t_me := t_me) (h_a0 := by omega) (h_a1 := by omega)) (fun o V_q hq => ?_)
      obtain ⟨F12, rfl, rfl, hC13, hM14, -⟩ := hq
      have hM15 : Fq 0 [(3, 5), (3, 6), (3, 7), (3, 8), (3, 9), (3, 10), (3, 11), (3, 12), (3, 16), (3, 17), (3, 19), (3, 20), (21, -5)] m tg F F12 := Fq_t (ln := ln) (ln1 := ln) hM0 Ex_r hM14 (by decide) (Or.inl rfl)
      refine Or.inl ⟨rfl, ?_⟩
      refine jx_ld (pc_q := 45) (l_q := L0) (st_q := [rv (me)]) rfl (jl_rvn g1) ?_
      refine cx_gr (pc_q := 48) (c := 2) (q := 21) (v := F (me) (21 : Int)) rfl rfl (by decide) (by decide) rfl rfl o_me t_me (show F12 (me) (21 : Int) = F (me) (21 : Int) from hM14 _ _ o_me (own_z o_me) (by rw [t_me]; rfl)) ?_
      have y16 : own m (F (me) (21 : Int)) ∧ tg (F (me) (21 : Int)) = 21 ∧ ((4 : Int) ≠ 0 → ln (F (me) (21 : Int)) = 4) := by have z := HC_n (c := 2) (q := 21) hC13 o_me t_me (own_z o_me) (by decide) rfl; rw [show F12 (me) ((21 : Nat) : Int) = F (me) (21 : Int) from (show F12 (me) (21 : Int) = F (me) (21 : Int) from hM14 _ _ o_me (own_z o_me) (by rw [t_me]; rfl))] at z; exact ⟨z.1, z.2.1, z.2.2.1⟩
      have ly16 : ln (F (me) (21 : Int)) = 4 := y16.2.2 (by decide)
      refine jx_ar (pc_q := 49) (st_q := [.int (i32 (0)), rv (F (me) (21 : Int))]) rfl rfl rfl rfl ?_
      refine jx_ld (pc_q := 50) (l_q := L0) (st_q := [rv (me), .int (i32 (0)), rv (F (me) (21 : Int))]) rfl (jl_rvn g1) ?_
      refine cx_gi (pc_q := 53) (c := 2) (q := 5) (v := F (me) (5 : Int)) rfl rfl (by decide) (by decide) (Or.inl rfl) rfl o_me t_me (show F12 (me) (5 : Int) = F (me) (5 : Int) from hM14 _ _ o_me (own_z o_me) (by rw [t_me]; rfl)) ?_
      have b17 : (-2147483648 : Int) ≤ F (me) (5 : Int) ∧ F (me) (5 : Int) ≤ 2147483647 := by have z := HC_i (c := 2) (q := 5) hC13 o_me t_me (by decide) rfl; rw [show F12 (me) ((5 : Nat) : Int) = F (me) (5 : Int) from (show F12 (me) (5 : Int) = F (me) (5 : Int) from hM14 _ _ o_me (own_z o_me) (by rw [t_me]; rfl))] at z; exact z
      have b18 := HC_l hC13 y16.1 y16.2.1 (by decide)
      refine cx_ias (pc_q := 54) (z := 0) (y := F (me) (5 : Int)) rfl rfl y16.1 y16.2.1 (by omega) (by omega) (by omega) ?_
      obtain ⟨F19, eF19⟩ : ∃ q, q = uF F12 (F (me) (21 : Int)) (0 : Int) (F (me) (5 : Int)) := ⟨_, rfl⟩
      rw [← eF19]
      have hC20 : HC 0 m tg ln F19 := by rw [eF19]; exact HC_pi hC13 y16.1 y16.2.1 (by decide) (by omega) (by rw [(show F12 (F (me) (21 : Int)) (-1) = 0 by have z := HC_n (c := 2) (q := 21) hC13 o_me t_me (own_z o_me) (by decide) rfl; rw [show F12 (me) ((21 : Nat) : Int) = F (me) (21 : Int) from (show F12 (me) (21 : Int) = F (me) (21 : Int) from hM14 _ _ o_me (own_z o_me) (by rw [t_me]; rfl))] at z; exact z.2.2.2 (by decide))]; exact ⟨(by show (-2147483648 : Int) ≤ _; omega), (by show _ ≤ (2147483647 : Int); omega)⟩)
      have hM21 : Fq 0 [(3, 5), (3, 6), (3, 7), (3, 8), (3, 9), (3, 10), (3, 11), (3, 12), (3, 16), (3, 17), (3, 19), (3, 20), (21, -5)] m tg F F19 := by rw [eF19]; exact Fq_p hM15 y16.2.1 (fun _ => rfl) (inL_a rfl (by omega) rfl)
      refine jx_ld (pc_q := 55) (l_q := L0) (st_q := [rv (me)]) rfl (jl_rvn g1) ?_
      refine cx_gr (pc_q := 58) (c := 2) (q := 21) (v := F (me) (21 : Int)) rfl rfl (by decide) (by decide) rfl rfl o_me t_me ((show F19 (me) (21 : Int) = F12 (me) (21 : Int) from by rw [eF19]; exact uF_j (by decide)).trans (show F12 (me) (21 : Int) = F (me) (21 : Int) from hM14 _ _ o_me (own_z o_me) (by rw [t_me]; rfl))) ?_
      refine jx_ar (pc_q := 59) (st_q := [.int (i32 (1)), rv (F (me) (21 : Int))]) rfl rfl rfl rfl ?_
      refine jx_ld (pc_q := 60) (l_q := L0) (st_q := [rv (me), .int (i32 (1)), rv (F (me) (21 : Int))]) rfl (jl_rvn g1) ?_
      refine cx_gi (pc_q := 63) (c := 2) (q := 6) (v := F (me) (6 : Int)) rfl rfl (by decide) (by decide) (Or.inl rfl) rfl o_me t_me ((show F19 (me) (6 : Int) = F12 (me) (6 : Int) from by rw [eF19]; exact uF_j (by decide)).trans (show F12 (me) (6 : Int) = F (me) (6 : Int) from hM14 _ _ o_me (own_z o_me) (by rw [t_me]; rfl))) ?_
      have b22 : (-2147483648 : Int) ≤ F (me) (6 : Int) ∧ F (me) (6 : Int) ≤ 2147483647 := by have z := HC_i (c := 2) (q := 6) hC20 o_me t_me (by decide) rfl; rw [show F19 (me) ((6 : Nat) : Int) = F (me) (6 : Int) from ((show F19 (me) (6 : Int) = F12 (me) (6 : Int) from by rw [eF19]; exact uF_j (by decide)).trans (show F12 (me) (6 : Int) = F (me) (6 : Int) from hM14 _ _ o_me (own_z o_me) (by rw [t_me]; rfl)))] at z; exact z
      refine cx_ias (pc_q := 64) (z := 1) (y := F (me) (6 : Int)) rfl rfl y16.1 y16.2.1 (by omega) (by omega) (by omega) ?_
      obtain ⟨F23, eF23⟩ : ∃ q, q = uF F19 (F (me) (21 : Int)) (1 : Int) (F (me) (6 : Int)) := ⟨_, rfl⟩
      rw [← eF23]
      have hC24 : HC 0 m tg ln F23 := by rw [eF23]; exact HC_pi hC20 y16.1 y16.2.1 (by decide) (by omega) (by rw [(show F19 (F (me) (21 : Int)) (-1) = 0 by have z := HC_n (c := 2) (q := 21) hC20 o_me t_me (own_z o_me) (by decide) rfl; rw [show F19 (me) ((21 : Nat) : Int) = F (me) (21 : Int) from ((show F19 (me) (21 : Int) = F12 (me) (21 : Int) from by rw [eF19]; exact uF_j (by decide)).trans (show F12 (me) (21 : Int) = F (me) (21 : Int) from hM14 _ _ o_me (own_z o_me) (by rw [t_me]; rfl)))] at z; exact z.2.2.2 (by decide))]; exact ⟨(by show (-2147483648 : Int) ≤ _; omega), (by show _ ≤ (2147483647 : Int); omega)⟩)
      have hM25 : Fq 0 [(3, 5), (3, 6), (3, 7), (3, 8), (3, 9), (3, 10), (3, 11), (3, 12), (3, 16), (3, 17), (3, 19), (3, 20), (21, -5)] m tg F F23 := by rw [eF23]; exact Fq_p hM21 y16.2.1 (fun _ => rfl) (inL_a rfl (by omega) rfl)
      refine jx_ld (pc_q := 65) (l_q := L0) (st_q := [rv (me)]) rfl (jl_rvn g1) ?_
      refine cx_gr (pc_q := 68) (c := 2) (q := 21) (v := F (me) (21 : Int)) rfl rfl (by decide) (by decide) rfl rfl o_me t_me ((show F23 (me) (21 : Int) = F19 (me) (21 : Int) from by rw [eF23]; exact uF_j (by decide)).trans ((show F19 (me) (21 : Int) = F12 (me) (21 : Int) from by rw [eF19]; exact uF_j (by decide)).trans (show F12 (me) (21 : Int) = F (me) (21 : Int) from hM14 _ _ o_me (own_z o_me) (by rw [t_me]; rfl)))) ?_
      refine jx_ar (pc_q := 69) (st_q := [.int (i32 (2)), rv (F (me) (21 : Int))]) rfl rfl rfl rfl ?_
      refine jx_ld (pc_q := 70) (l_q := L0) (st_q := [rv (me), .int (i32 (2)), rv (F (me) (21 : Int))]) rfl (jl_rvn g1) ?_
      refine cx_gi (pc_q := 73) (c := 2) (q := 7) (v := F (me) (7 : Int)) rfl rfl (by decide) (by decide) (Or.inl rfl) rfl o_me t_me ((show F23 (me) (7 : Int) = F19 (me) (7 : Int) from by rw [eF23]; exact uF_j (by decide)).trans ((show F19 (me) (7 : Int) = F12 (me) (7 : Int) from by rw [eF19]; exact uF_j (by decide)).trans (show F12 (me) (7 : Int) = F (me) (7 : Int) from hM14 _ _ o_me (own_z o_me) (by rw [t_me]; rfl)))) ?_
      have b26 : (-2147483648 : Int) ≤ F (me) (7 : Int) ∧ F (me) (7 : Int) ≤ 2147483647 := by have z := HC_i (c := 2) (q := 7) hC24 o_me t_me (by decide) rfl; rw [show F23 (me) ((7 : Nat) : Int) = F (me) (7 : Int) from ((show F23 (me) (7 : Int) = F19 (me) (7 : Int) from by rw [eF23]; exact uF_j (by decide)).trans ((show F19 (me) (7 : Int) = F12 (me) (7 : Int) from by rw [eF19]; exact uF_j (by decide)).trans (show F12 (me) (7 : Int) = F (me) (7 : Int) from hM14 _ _ o_me (own_z o_me) (by rw [t_me]; rfl))))] at z; exact z
      refine cx_ias (pc_q := 74) (z := 2) (y := F (me) (7 : Int)) rfl rfl y16.1 y16.2.1 (by omega) (by omega) (by omega) ?_
      obtain ⟨F27, eF27⟩ : ∃ q, q = uF F23 (F (me) (21 : Int)) (2 : Int) (F (me) (7 : Int)) := ⟨_, rfl⟩
      rw [← eF27]
      have hC28 : HC 0 m tg ln F27 := by rw [eF27]; exact HC_pi hC24 y16.1 y16.2.1 (by decide) (by omega) (by rw [(show F23 (F (me) (21 : Int)) (-1) = 0 by have z := HC_n (c := 2) (q := 21) hC24 o_me t_me (own_z o_me) (by decide) rfl; rw [show F23 (me) ((21 : Nat) : Int) = F (me) (21 : Int) from ((show F23 (me) (21 : Int) = F19 (me) (21 : Int) from by rw [eF23]; exact uF_j (by decide)).trans ((show F19 (me) (21 : Int) = F12 (me) (21 : Int) from by rw [eF19]; exact uF_j (by decide)).trans (show F12 (me) (21 : Int) = F (me) (21 : Int) from hM14 _ _ o_me (own_z o_me) (by rw [t_me]; rfl))))] at z; exact z.2.2.2 (by decide))]; exact ⟨(by show (-2147483648 : Int) ≤ _; omega), (by show _ ≤ (2147483647 : Int); omega)⟩)
      have hM29 : Fq 0 [(3, 5), (3, 6), (3, 7), (3, 8), (3, 9), (3, 10), (3, 11), (3, 12), (3, 16), (3, 17), (3, 19), (3, 20), (21, -5)] m tg F F27 := by rw [eF27]; exact Fq_p hM25 y16.2.1 (fun _ => rfl) (inL_a rfl (by omega) rfl)
      refine jx_ld (pc_q := 75) (l_q := L0) (st_q := [rv (me)]) rfl (jl_rvn g1) ?_
      refine cx_gr (pc_q := 78) (c := 2) (q := 21) (v := F (me) (21 : Int)) rfl rfl (by decide) (by decide) rfl rfl o_me t_me ((show F27 (me) (21 : Int) = F23 (me) (21 : Int) from by rw [eF27]; exact uF_j (by decide)).trans ((show F23 (me) (21 : Int) = F19 (me) (21 : Int) from by rw [eF23]; exact uF_j (by decide)).trans ((show F19 (me) (21 : Int) = F12 (me) (21 : Int) from by rw [eF19]; exact uF_j (by decide)).trans (show F12 (me) (21 : Int) = F (me) (21 : Int) from hM14 _ _ o_me (own_z o_me) (by rw [t_me]; rfl))))) ?_
      refine jx_ar (pc_q := 79) (st_q := [.int (i32 (3)), rv (F (me) (21 : Int))]) rfl rfl rfl rfl ?_
      refine jx_ld (pc_q := 80) (l_q := L0) (st_q := [rv (me), .int (i32 (3)), rv (F (me) (21 : Int))]) rfl (jl_rvn g1) ?_
      refine cx_gi (pc_q := 83) (c := 2) (q := 10) (v := F (me) (10 : Int)) rfl rfl (by decide) (by decide) (Or.inl rfl) rfl o_me t_me ((show F27 (me) (10 : Int) = F23 (me) (10 : Int) from by rw [eF27]; exact uF_j (by decide)).trans ((show F23 (me) (10 : Int) = F19 (me) (10 : Int) from by rw [eF23]; exact uF_j (by decide)).trans ((show F19 (me) (10 : Int) = F12 (me) (10 : Int) from by rw [eF19]; exact uF_j (by decide)).trans (show F12 (me) (10 : Int) = F (me) (10 : Int) from hM14 _ _ o_me (own_z o_me) (by rw [t_me]; rfl))))) ?_
      have b30 : (-2147483648 : Int) ≤ F (me) (10 : Int) ∧ F (me) (10 : Int) ≤ 2147483647 := by have z := HC_i (c := 2) (q := 10) hC28 o_me t_me (by decide) rfl; rw [show F27 (me) ((10 : Nat) : Int) = F (me) (10 : Int) from ((show F27 (me) (10 : Int) = F23 (me) (10 : Int) from by rw [eF27]; exact uF_j (by decide)).trans ((show F23 (me) (10 : Int) = F19 (me) (10 : Int) from by rw [eF23]; exact uF_j (by decide)).trans ((show F19 (me) (10 : Int) = F12 (me) (10 : Int) from by rw [eF19]; exact uF_j (by decide)).trans (show F12 (me) (10 : Int) = F (me) (10 : Int) from hM14 _ _ o_me (own_z o_me) (by rw [t_me]; rfl)))))] at z; exact z
      refine cx_ias (pc_q := 84) (z := 3) (y := F (me) (10 : Int)) rfl rfl y16.1 y16.2.1 (by omega) (by omega) (by omega) ?_
      obtain ⟨F31, eF31⟩ : ∃ q, q = uF F27 (F (me) (21 : Int)) (3 : Int) (F (me) (10 : Int)) := ⟨_, rfl⟩
      rw [← eF31]
      have hC32 : HC 0 m tg ln F31 := by rw [eF31]; exact HC_pi hC28 y16.1 y16.2.1 (by decide) (by omega) (by rw [(show F27 (F (me) (21 : Int)) (-1) = 0 by have z := HC_n (c := 2) (q := 21) hC28 o_me t_me (own_z o_me) (by decide) rfl; rw [show F27 (me) ((21 : Nat) : Int) = F (me) (21 : Int) from ((show F27 (me) (21 : Int) = F23 (me) (21 : Int) from by rw [eF27]; exact uF_j (by decide)).trans ((show F23 (me) (21 : Int) = F19 (me) (21 : Int) from by rw [eF23]; exact uF_j (by decide)).trans ((show F19 (me) (21 : Int) = F12 (me) (21 : Int) from by rw [eF19]; exact uF_j (by decide)).trans (show F12 (me) (21 : Int) = F (me) (21 : Int) from hM14 _ _ o_me (own_z o_me) (by rw [t_me]; rfl)))))] at z; exact z.2.2.2 (by decide))]; exact ⟨(by show (-2147483648 : Int) ≤ _; omega), (by show _ ≤ (2147483647 : Int); omega)⟩)
      have hM33 : Fq 0 [(3, 5), (3, 6), (3, 7), (3, 8), (3, 9), (3, 10), (3, 11), (3, 12), (3, 16), (3, 17), (3, 19), (3, 20), (21, -5)] m tg F F31 := by rw [eF31]; exact Fq_p hM29 y16.2.1 (fun _ => rfl) (inL_a rfl (by omega) rfl)
      refine jx_ld (pc_q := 85) (l_q := L0) (st_q := [rv (me)]) rfl (jl_rvn g1) ?_
      refine jx_ar (pc_q := 86) (st_q := [.int (i32 (1)), rv (me)]) rfl rfl rfl rfl ?_
      refine cx_pb (pc_q := 89) (c := 2) (q := 20) (qi := (20 : Int)) (z := 1) rfl rfl (by decide) (by decide) rfl rfl rfl (by decide) (by omega) rfl o_me t_me rfl ?_
      obtain ⟨F34, eF34⟩ : ∃ q, q = uF F31 (me) (20 : Int) (1) := ⟨_, rfl⟩
      rw [← eF34]
      have hC35 : HC 0 m tg ln F34 := by rw [eF34]; exact HC_fi (c := 2) (q := 20) hC32 t_me (by decide) rfl (by omega) (by omega) ⟨fun w => absurd w (by decide), fun _ => ⟨fun w => absurd w (by decide), fun w => absurd w (by decide)⟩⟩
      have hM36 : Fq 0 [(3, 5), (3, 6), (3, 7), (3, 8), (3, 9), (3, 10), (3, 11), (3, 12), (3, 16), (3, 17), (3, 19), (3, 20), (21, -5)] m tg F F34 := by rw [eF34]; exact Fq_p hM33 t_me (fun _ => rfl) rfl
      refine jx_ld (pc_q := 90) (l_q := L0) (st_q := [rv (me)]) rfl (jl_rvn g1) ?_
      refine jx_ld (pc_q := 91) (l_q := L0) (st_q := [rv (me), rv (me)]) rfl (jl_rvn g1) ?_
      refine cx_gi (pc_q := 94) (c := 2) (q := 17) (v := F (me) (17 : Int)) rfl rfl (by decide) (by decide) (Or.inl rfl) rfl o_me t_me ((show F34 (me) (17 : Int) = F31 (me) (17 : Int) from by rw [eF34]; exact uF_j (by decide)).trans ((show F31 (me) (17 : Int) = F27 (me) (17 : Int) from by rw [eF31]; exact uF_j (by decide)).trans ((show F27 (me) (17 : Int) = F23 (me) (17 : Int) from by rw [eF27]; exact uF_j (by decide)).trans ((show F23 (me) (17 : Int) = F19 (me) (17 : Int) from by rw [eF23]; exact uF_j (by decide)).trans ((show F19 (me) (17 : Int) = F12 (me) (17 : Int) from by rw [eF19]; exact uF_j (by decide)).trans (show F12 (me) (17 : Int) = F (me) (17 : Int) from hM14 _ _ o_me (own_z o_me) (by rw [t_me]; rfl))))))) ?_
      have b37 : (-2147483648 : Int) ≤ F (me) (17 : Int) ∧ F (me) (17 : Int) ≤ 2147483647 := by have z := HC_i (c := 2) (q := 17) hC35 o_me t_me (by decide) rfl; rw [show F34 (me) ((17 : Nat) : Int) = F (me) (17 : Int) from ((show F34 (me) (17 : Int) = F31 (me) (17 : Int) from by rw [eF34]; exact uF_j (by decide)).trans ((show F31 (me) (17 : Int) = F27 (me) (17 : Int) from by rw [eF31]; exact uF_j (by decide)).trans ((show F27 (me) (17 : Int) = F23 (me) (17 : Int) from by rw [eF27]; exact uF_j (by decide)).trans ((show F23 (me) (17 : Int) = F19 (me) (17 : Int) from by rw [eF23]; exact uF_j (by decide)).trans ((show F19 (me) (17 : Int) = F12 (me) (17 : Int) from by rw [eF19]; exact uF_j (by decide)).trans (show F12 (me) (17 : Int) = F (me) (17 : Int) from hM14 _ _ o_me (own_z o_me) (by rw [t_me]; rfl)))))))] at z; exact z
      refine jx_ld (pc_q := 95) (l_q := L0) (st_q := [rv (me), .int (i32 (F (me) (17 : Int))), rv (me)]) rfl (jl_rvn g1) ?_
      refine cx_vi (c := 2) (a := me) (st := [.int (i32 (F (me) (17 : Int))), rv (me)]) (as := []) rfl rfl rfl o_me t_me (by decide) rfl ⟨rfl, rfl, (by rw [jS_i, jS_r, jS_0]; exact Nat.le_of_ble_eq_true rfl)⟩ rfl (k_LCore_self (dd := d) (R := R) (m := m) (tg := tg) (ln := ln) (F := F34) (me := me) (hd := by omega) (hC := hC35) (o_me := o_me) (t_me := t_me)) (fun o V_q hq => ?_)
      obtain ⟨r38, rfl, rfl, b39, -⟩ := hq
      refine Or.inr (Or.inl ⟨_, rfl, ?_⟩)
      refine cx_vi (c := 2) (a := me) (st := []) (as := [.int (i32 (F (me) (17 : Int))), .int (i32 (r38))]) rfl rfl rfl o_me t_me (by decide) rfl ⟨rfl, rfl, (Nat.le_of_ble_eq_true rfl)⟩ rfl (k_LCore_insert (dd := d) (R := R) (m := m) (tg := tg) (ln := ln) (F := F34) (me := me) (a0 := F (me) (17 : Int)) (a1 := r38) (hd := by omega) (hC := hC35) (o_me := o_me) (t_me := t_me) (h_a0 := by omega) (h_a1 := by omega)) (fun o V_q hq => ?_)
      obtain ⟨F40, rfl, rfl, hC41, hM42, -⟩ := hq
      have hM43 : Fq 0 [(3, 5), (3, 6), (3, 7), (3, 8), (3, 9), (3, 10), (3, 11), (3, 12), (3, 16), (3, 17), (3, 19), (3, 20), (21, -5)] m tg F F40 := Fq_t (ln := ln) (ln1 := ln) hM36 Ex_r hM42 (by decide) (Or.inl rfl)
      refine Or.inl ⟨rfl, ?_⟩
      refine jx_ld (pc_q := 102) (l_q := L0) (st_q := [rv (me)]) rfl (jl_rvn g1) ?_
      refine cx_vi (c := 2) (a := me) (st := []) (as := []) rfl rfl rfl o_me t_me (by decide) rfl ⟨rfl, rfl, (Nat.le_of_ble_eq_true rfl)⟩ rfl (k_LCore_leave (dd := d) (R := R) (m := m) (tg := tg) (ln := ln) (F := F40) (me := me) (hd := by omega) (hC := hC41) (o_me := o_me) (t_me := t_me)) (fun o V_q hq => ?_)
      obtain ⟨F44, rfl, rfl, hC45, hM46, -⟩ := hq
      have hM47 : Fq 0 [(3, 5), (3, 6), (3, 7), (3, 8), (3, 9), (3, 10), (3, 11), (3, 12), (3, 16), (3, 17), (3, 19), (3, 20), (21, -5)] m tg F F44 := Fq_t (ln := ln) (ln1 := ln) hM43 Ex_r hM46 (by decide) (Or.inl rfl)
      refine Or.inl ⟨rfl, ?_⟩
      refine jx_ld (pc_q := 106) (l_q := L0) (st_q := [rv (me)]) rfl (jl_rvn g1) ?_
      refine cx_vi (c := 2) (a := me) (st := []) (as := []) rfl rfl rfl o_me t_me (by decide) rfl ⟨rfl, rfl, (Nat.le_of_ble_eq_true rfl)⟩ rfl (k_LCore_dispatch (dd := d) (R := R) (m := m) (tg := tg) (ln := ln) (F := F44) (me := me) (hd := by omega) (hC := hC45) (o_me := o_me) (t_me := t_me)) (fun o V_q hq => ?_)
      obtain ⟨F48, rfl, rfl, hC49, hM50, -⟩ := hq
      have hM51 : Fq 0 [(3, 5), (3, 6), (3, 7), (3, 8), (3, 9), (3, 10), (3, 11), (3, 12), (3, 16), (3, 17), (3, 19), (3, 20), (21, -5)] m tg F F48 := Fq_t (ln := ln) (ln1 := ln) hM47 Ex_r hM50 (by decide) (Or.inl rfl)
      refine Or.inl ⟨rfl, ?_⟩
      refine jx_rt (v := none) rfl rfl rfl rfl rfl rfl ?_
      exact ⟨F48, rfl, rfl, hC49, hM51, trivial⟩
  · have _q := h3
    refine jx_ld (pc_q := 8) (l_q := L0) (st_q := [rv (me)]) rfl (jl_rvn g1) ?_
    refine cx_gi (pc_q := 11) (c := 2) (q := 12) (v := F (me) (12 : Int)) rfl rfl (by decide) (by decide) (Or.inl rfl) rfl o_me t_me rfl ?_
    have b52 : (-2147483648 : Int) ≤ F (me) (12 : Int) ∧ F (me) (12 : Int) ≤ 2147483647 := by have z := HC_i (c := 2) (q := 12) hC o_me t_me (by decide) rfl; rw [show F (me) ((12 : Nat) : Int) = F (me) (12 : Int) from rfl] at z; exact z
    refine jx_ar (pc_q := 12) (st_q := [.int (i32 (1)), .int (i32 (F (me) (12 : Int)))]) rfl rfl rfl rfl ?_
    refine jx_icmp_ne (pc_q := 15) (tg := 22) rfl rfl rfl (by omega) (by omega) (by decide) (by decide) (fun h53 => ?_) (fun h53 => ?_)
    · have _q := h53
      refine jx_rt (v := none) rfl rfl rfl rfl rfl rfl ?_
      exact ⟨F, rfl, rfl, hC, hM0, trivial⟩
    · have _q := h53
      refine jx_ld (pc_q := 16) (l_q := L0) (st_q := [rv (me)]) rfl (jl_rvn g1) ?_
      refine cx_gi (pc_q := 19) (c := 2) (q := 17) (v := F (me) (17 : Int)) rfl rfl (by decide) (by decide) (Or.inl rfl) rfl o_me t_me rfl ?_
      have b54 : (-2147483648 : Int) ≤ F (me) (17 : Int) ∧ F (me) (17 : Int) ≤ 2147483647 := by have z := HC_i (c := 2) (q := 17) hC o_me t_me (by decide) rfl; rw [show F (me) ((17 : Nat) : Int) = F (me) (17 : Int) from rfl] at z; exact z
      refine jx_if_ne (pc_q := 22) (tg := 23) rfl rfl rfl (by omega) (by omega) (fun h55 => ?_) (fun h55 => ?_)
      · have _q := h55
        refine jx_ld (pc_q := 24) (l_q := L0) (st_q := [rv (me)]) rfl (jl_rvn g1) ?_
        refine cx_gi (pc_q := 27) (c := 2) (q := 11) (v := F (me) (11 : Int)) rfl rfl (by decide) (by decide) (Or.inr rfl) rfl o_me t_me rfl ?_
        refine jx_if_eq (pc_q := 30) (tg := 105) rfl rfl rfl (by omega) (by omega) (fun h56 => ?_) (fun h56 => ?_)
        · have _q := h56
          refine jx_ld (pc_q := 106) (l_q := L0) (st_q := [rv (me)]) rfl (jl_rvn g1) ?_
          refine cx_vi (c := 2) (a := me) (st := []) (as := []) rfl rfl rfl o_me t_me (by decide) rfl ⟨rfl, rfl, (Nat.le_of_ble_eq_true rfl)⟩ rfl (k_LCore_dispatch (dd := d) (R := R) (m := m) (tg := tg) (ln := ln) (F := F) (me := me) (hd := by omega) (hC := hC) (o_me := o_me) (t_me := t_me)) (fun o V_q hq => ?_)
          obtain ⟨F57, rfl, rfl, hC58, hM59, -⟩ := hq
          have hM60 : Fq 0 [(3, 5), (3, 6), (3, 7), (3, 8), (3, 9), (3, 10), (3, 11), (3, 12), (3, 16), (3, 17), (3, 19), (3, 20), (21, -5)] m tg F F57 := Fq_t (ln := ln) (ln1 := ln) hM0 Ex_r hM59 (by decide) (Or.inl rfl)
          refine Or.inl ⟨rfl, ?_⟩
          refine jx_rt (v := none) rfl rfl rfl rfl rfl rfl ?_
          exact ⟨F57, rfl, rfl, hC58, hM60, trivial⟩
        · have _q := h56
          refine jx_ld (pc_q := 31) (l_q := L0) (st_q := [rv (me)]) rfl (jl_rvn g1) ?_
          refine jx_ld (pc_q := 32) (l_q := L0) (st_q := [rv (me), rv (me)]) rfl (jl_rvn g1) ?_
          refine cx_gi (pc_q := 35) (c := 2) (q := 9) (v := F (me) (9 : Int)) rfl rfl (by decide) (by decide) (Or.inl rfl) rfl o_me t_me rfl ?_
          have b61 : (-2147483648 : Int) ≤ F (me) (9 : Int) ∧ F (me) (9 : Int) ≤ 2147483647 := by have z := HC_i (c := 2) (q := 9) hC o_me t_me (by decide) rfl; rw [show F (me) ((9 : Nat) : Int) = F (me) (9 : Int) from rfl] at z; exact z
          refine jx_ar (pc_q := 36) (st_q := [.int (i32 (1)), .int (i32 (F (me) (9 : Int))), rv (me)]) rfl rfl rfl rfl ?_
          refine jx_sub (pc_q := 37) rfl rfl ?_
          obtain ⟨z62, ez62⟩ : ∃ q, q = (i32 ((F (me) (9 : Int) - 1))).toInt := ⟨_, rfl⟩
          have bz62 : (-2147483648 : Int) ≤ z62 ∧ z62 ≤ 2147483647 := ez62 ▸ i32_rg _
          rw [show i32 ((F (me) (9 : Int) - 1)) = i32 z62 by rw [ez62, i32_of]]
          clear ez62
          refine jx_ld (pc_q := 38) (l_q := L0) (st_q := [rv (me), .int (i32 (z62)), rv (me)]) rfl (jl_rvn g1) ?_
          refine cx_gi (pc_q := 41) (c := 2) (q := 8) (v := F (me) (8 : Int)) rfl rfl (by decide) (by decide) (Or.inl rfl) rfl o_me t_me rfl ?_
          have b63 : (-2147483648 : Int) ≤ F (me) (8 : Int) ∧ F (me) (8 : Int) ≤ 2147483647 := by have z := HC_i (c := 2) (q := 8) hC o_me t_me (by decide) rfl; rw [show F (me) ((8 : Nat) : Int) = F (me) (8 : Int) from rfl] at z; exact z
          refine cx_vi (c := 2) (a := me) (st := []) (as := [.int (i32 (z62)), .int (i32 (F (me) (8 : Int)))]) rfl rfl rfl o_me t_me (by decide) rfl ⟨rfl, rfl, (Nat.le_of_ble_eq_true rfl)⟩ rfl (k_LCore_poke (dd := d) (R := R) (m := m) (tg := tg) (ln := ln) (F := F) (me := me) (a0 := z62) (a1 := F (me) (8 : Int)) (hd := by omega) (hC := hC) (o_me := o_me) (t_me := t_me) (h_a0 := by omega) (h_a1 := by omega)) (fun o V_q hq => ?_)
          obtain ⟨F64, rfl, rfl, hC65, hM66, -⟩ := hq
          have hM67 : Fq 0 [(3, 5), (3, 6), (3, 7), (3, 8), (3, 9), (3, 10), (3, 11), (3, 12), (3, 16), (3, 17), (3, 19), (3, 20), (21, -5)] m tg F F64 := Fq_t (ln := ln) (ln1 := ln) hM0 Ex_r hM66 (by decide) (Or.inl rfl)
          refine Or.inl ⟨rfl, ?_⟩
          refine jx_ld (pc_q := 45) (l_q := L0) (st_q := [rv (me)]) rfl (jl_rvn g1) ?_
          refine cx_gr (pc_q := 48) (c := 2) (q := 21) (v := F (me) (21 : Int)) rfl rfl (by decide) (by decide) rfl rfl o_me t_me (show F64 (me) (21 : Int) = F (me) (21 : Int) from hM66 _ _ o_me (own_z o_me) (by rw [t_me]; rfl)) ?_
          have y68 : own m (F (me) (21 : Int)) ∧ tg (F (me) (21 : Int)) = 21 ∧ ((4 : Int) ≠ 0 → ln (F (me) (21 : Int)) = 4) := by have z := HC_n (c := 2) (q := 21) hC65 o_me t_me (own_z o_me) (by decide) rfl; rw [show F64 (me) ((21 : Nat) : Int) = F (me) (21 : Int) from (show F64 (me) (21 : Int) = F (me) (21 : Int) from hM66 _ _ o_me (own_z o_me) (by rw [t_me]; rfl))] at z; exact ⟨z.1, z.2.1, z.2.2.1⟩
          have ly68 : ln (F (me) (21 : Int)) = 4 := y68.2.2 (by decide)
          refine jx_ar (pc_q := 49) (st_q := [.int (i32 (0)), rv (F (me) (21 : Int))]) rfl rfl rfl rfl ?_
          refine jx_ld (pc_q := 50) (l_q := L0) (st_q := [rv (me), .int (i32 (0)), rv (F (me) (21 : Int))]) rfl (jl_rvn g1) ?_
          refine cx_gi (pc_q := 53) (c := 2) (q := 5) (v := F (me) (5 : Int)) rfl rfl (by decide) (by decide) (Or.inl rfl) rfl o_me t_me (show F64 (me) (5 : Int) = F (me) (5 : Int) from hM66 _ _ o_me (own_z o_me) (by rw [t_me]; rfl)) ?_
          have b69 : (-2147483648 : Int) ≤ F (me) (5 : Int) ∧ F (me) (5 : Int) ≤ 2147483647 := by have z := HC_i (c := 2) (q := 5) hC65 o_me t_me (by decide) rfl; rw [show F64 (me) ((5 : Nat) : Int) = F (me) (5 : Int) from (show F64 (me) (5 : Int) = F (me) (5 : Int) from hM66 _ _ o_me (own_z o_me) (by rw [t_me]; rfl))] at z; exact z
          have b70 := HC_l hC65 y68.1 y68.2.1 (by decide)
          refine cx_ias (pc_q := 54) (z := 0) (y := F (me) (5 : Int)) rfl rfl y68.1 y68.2.1 (by omega) (by omega) (by omega) ?_
          obtain ⟨F71, eF71⟩ : ∃ q, q = uF F64 (F (me) (21 : Int)) (0 : Int) (F (me) (5 : Int)) := ⟨_, rfl⟩
          rw [← eF71]
          have hC72 : HC 0 m tg ln F71 := by rw [eF71]; exact HC_pi hC65 y68.1 y68.2.1 (by decide) (by omega) (by rw [(show F64 (F (me) (21 : Int)) (-1) = 0 by have z := HC_n (c := 2) (q := 21) hC65 o_me t_me (own_z o_me) (by decide) rfl; rw [show F64 (me) ((21 : Nat) : Int) = F (me) (21 : Int) from (show F64 (me) (21 : Int) = F (me) (21 : Int) from hM66 _ _ o_me (own_z o_me) (by rw [t_me]; rfl))] at z; exact z.2.2.2 (by decide))]; exact ⟨(by show (-2147483648 : Int) ≤ _; omega), (by show _ ≤ (2147483647 : Int); omega)⟩)
          have hM73 : Fq 0 [(3, 5), (3, 6), (3, 7), (3, 8), (3, 9), (3, 10), (3, 11), (3, 12), (3, 16), (3, 17), (3, 19), (3, 20), (21, -5)] m tg F F71 := by rw [eF71]; exact Fq_p hM67 y68.2.1 (fun _ => rfl) (inL_a rfl (by omega) rfl)
          refine jx_ld (pc_q := 55) (l_q := L0) (st_q := [rv (me)]) rfl (jl_rvn g1) ?_
          refine cx_gr (pc_q := 58) (c := 2) (q := 21) (v := F (me) (21 : Int)) rfl rfl (by decide) (by decide) rfl rfl o_me t_me ((show F71 (me) (21 : Int) = F64 (me) (21 : Int) from by rw [eF71]; exact uF_j (by decide)).trans (show F64 (me) (21 : Int) = F (me) (21 : Int) from hM66 _ _ o_me (own_z o_me) (by rw [t_me]; rfl))) ?_
          refine jx_ar (pc_q := 59) (st_q := [.int (i32 (1)), rv (F (me) (21 : Int))]) rfl rfl rfl rfl ?_
          refine jx_ld (pc_q := 60) (l_q := L0) (st_q := [rv (me), .int (i32 (1)), rv (F (me) (21 : Int))]) rfl (jl_rvn g1) ?_
          refine cx_gi (pc_q := 63) (c := 2) (q := 6) (v := F (me) (6 : Int)) rfl rfl (by decide) (by decide) (Or.inl rfl) rfl o_me t_me ((show F71 (me) (6 : Int) = F64 (me) (6 : Int) from by rw [eF71]; exact uF_j (by decide)).trans (show F64 (me) (6 : Int) = F (me) (6 : Int) from hM66 _ _ o_me (own_z o_me) (by rw [t_me]; rfl))) ?_
          have b74 : (-2147483648 : Int) ≤ F (me) (6 : Int) ∧ F (me) (6 : Int) ≤ 2147483647 := by have z := HC_i (c := 2) (q := 6) hC72 o_me t_me (by decide) rfl; rw [show F71 (me) ((6 : Nat) : Int) = F (me) (6 : Int) from ((show F71 (me) (6 : Int) = F64 (me) (6 : Int) from by rw [eF71]; exact uF_j (by decide)).trans (show F64 (me) (6 : Int) = F (me) (6 : Int) from hM66 _ _ o_me (own_z o_me) (by rw [t_me]; rfl)))] at z; exact z
          refine cx_ias (pc_q := 64) (z := 1) (y := F (me) (6 : Int)) rfl rfl y68.1 y68.2.1 (by omega) (by omega) (by omega) ?_
          obtain ⟨F75, eF75⟩ : ∃ q, q = uF F71 (F (me) (21 : Int)) (1 : Int) (F (me) (6 : Int)) := ⟨_, rfl⟩
          rw [← eF75]
          have hC76 : HC 0 m tg ln F75 := by rw [eF75]; exact HC_pi hC72 y68.1 y68.2.1 (by decide) (by omega) (by rw [(show F71 (F (me) (21 : Int)) (-1) = 0 by have z := HC_n (c := 2) (q := 21) hC72 o_me t_me (own_z o_me) (by decide) rfl; rw [show F71 (me) ((21 : Nat) : Int) = F (me) (21 : Int) from ((show F71 (me) (21 : Int) = F64 (me) (21 : Int) from by rw [eF71]; exact uF_j (by decide)).trans (show F64 (me) (21 : Int) = F (me) (21 : Int) from hM66 _ _ o_me (own_z o_me) (by rw [t_me]; rfl)))] at z; exact z.2.2.2 (by decide))]; exact ⟨(by show (-2147483648 : Int) ≤ _; omega), (by show _ ≤ (2147483647 : Int); omega)⟩)
          have hM77 : Fq 0 [(3, 5), (3, 6), (3, 7), (3, 8), (3, 9), (3, 10), (3, 11), (3, 12), (3, 16), (3, 17), (3, 19), (3, 20), (21, -5)] m tg F F75 := by rw [eF75]; exact Fq_p hM73 y68.2.1 (fun _ => rfl) (inL_a rfl (by omega) rfl)
          refine jx_ld (pc_q := 65) (l_q := L0) (st_q := [rv (me)]) rfl (jl_rvn g1) ?_
          refine cx_gr (pc_q := 68) (c := 2) (q := 21) (v := F (me) (21 : Int)) rfl rfl (by decide) (by decide) rfl rfl o_me t_me ((show F75 (me) (21 : Int) = F71 (me) (21 : Int) from by rw [eF75]; exact uF_j (by decide)).trans ((show F71 (me) (21 : Int) = F64 (me) (21 : Int) from by rw [eF71]; exact uF_j (by decide)).trans (show F64 (me) (21 : Int) = F (me) (21 : Int) from hM66 _ _ o_me (own_z o_me) (by rw [t_me]; rfl)))) ?_
          refine jx_ar (pc_q := 69) (st_q := [.int (i32 (2)), rv (F (me) (21 : Int))]) rfl rfl rfl rfl ?_
          refine jx_ld (pc_q := 70) (l_q := L0) (st_q := [rv (me), .int (i32 (2)), rv (F (me) (21 : Int))]) rfl (jl_rvn g1) ?_
          refine cx_gi (pc_q := 73) (c := 2) (q := 7) (v := F (me) (7 : Int)) rfl rfl (by decide) (by decide) (Or.inl rfl) rfl o_me t_me ((show F75 (me) (7 : Int) = F71 (me) (7 : Int) from by rw [eF75]; exact uF_j (by decide)).trans ((show F71 (me) (7 : Int) = F64 (me) (7 : Int) from by rw [eF71]; exact uF_j (by decide)).trans (show F64 (me) (7 : Int) = F (me) (7 : Int) from hM66 _ _ o_me (own_z o_me) (by rw [t_me]; rfl)))) ?_
          have b78 : (-2147483648 : Int) ≤ F (me) (7 : Int) ∧ F (me) (7 : Int) ≤ 2147483647 := by have z := HC_i (c := 2) (q := 7) hC76 o_me t_me (by decide) rfl; rw [show F75 (me) ((7 : Nat) : Int) = F (me) (7 : Int) from ((show F75 (me) (7 : Int) = F71 (me) (7 : Int) from by rw [eF75]; exact uF_j (by decide)).trans ((show F71 (me) (7 : Int) = F64 (me) (7 : Int) from by rw [eF71]; exact uF_j (by decide)).trans (show F64 (me) (7 : Int) = F (me) (7 : Int) from hM66 _ _ o_me (own_z o_me) (by rw [t_me]; rfl))))] at z; exact z
          refine cx_ias (pc_q := 74) (z := 2) (y := F (me) (7 : Int)) rfl rfl y68.1 y68.2.1 (by omega) (by omega) (by omega) ?_
          obtain ⟨F79, eF79⟩ : ∃ q, q = uF F75 (F (me) (21 : Int)) (2 : Int) (F (me) (7 : Int)) := ⟨_, rfl⟩
          rw [← eF79]
          have hC80 : HC 0 m tg ln F79 := by rw [eF79]; exact HC_pi hC76 y68.1 y68.2.1 (by decide) (by omega) (by rw [(show F75 (F (me) (21 : Int)) (-1) = 0 by have z := HC_n (c := 2) (q := 21) hC76 o_me t_me (own_z o_me) (by decide) rfl; rw [show F75 (me) ((21 : Nat) : Int) = F (me) (21 : Int) from ((show F75 (me) (21 : Int) = F71 (me) (21 : Int) from by rw [eF75]; exact uF_j (by decide)).trans ((show F71 (me) (21 : Int) = F64 (me) (21 : Int) from by rw [eF71]; exact uF_j (by decide)).trans (show F64 (me) (21 : Int) = F (me) (21 : Int) from hM66 _ _ o_me (own_z o_me) (by rw [t_me]; rfl))))] at z; exact z.2.2.2 (by decide))]; exact ⟨(by show (-2147483648 : Int) ≤ _; omega), (by show _ ≤ (2147483647 : Int); omega)⟩)
          have hM81 : Fq 0 [(3, 5), (3, 6), (3, 7), (3, 8), (3, 9), (3, 10), (3, 11), (3, 12), (3, 16), (3, 17), (3, 19), (3, 20), (21, -5)] m tg F F79 := by rw [eF79]; exact Fq_p hM77 y68.2.1 (fun _ => rfl) (inL_a rfl (by omega) rfl)
          refine jx_ld (pc_q := 75) (l_q := L0) (st_q := [rv (me)]) rfl (jl_rvn g1) ?_
          refine cx_gr (pc_q := 78) (c := 2) (q := 21) (v := F (me) (21 : Int)) rfl rfl (by decide) (by decide) rfl rfl o_me t_me ((show F79 (me) (21 : Int) = F75 (me) (21 : Int) from by rw [eF79]; exact uF_j (by decide)).trans ((show F75 (me) (21 : Int) = F71 (me) (21 : Int) from by rw [eF75]; exact uF_j (by decide)).trans ((show F71 (me) (21 : Int) = F64 (me) (21 : Int) from by rw [eF71]; exact uF_j (by decide)).trans (show F64 (me) (21 : Int) = F (me) (21 : Int) from hM66 _ _ o_me (own_z o_me) (by rw [t_me]; rfl))))) ?_
          refine jx_ar (pc_q := 79) (st_q := [.int (i32 (3)), rv (F (me) (21 : Int))]) rfl rfl rfl rfl ?_
          refine jx_ld (pc_q := 80) (l_q := L0) (st_q := [rv (me), .int (i32 (3)), rv (F (me) (21 : Int))]) rfl (jl_rvn g1) ?_
          refine cx_gi (pc_q := 83) (c := 2) (q := 10) (v := F (me) (10 : Int)) rfl rfl (by decide) (by decide) (Or.inl rfl) rfl o_me t_me ((show F79 (me) (10 : Int) = F75 (me) (10 : Int) from by rw [eF79]; exact uF_j (by decide)).trans ((show F75 (me) (10 : Int) = F71 (me) (10 : Int) from by rw [eF75]; exact uF_j (by decide)).trans ((show F71 (me) (10 : Int) = F64 (me) (10 : Int) from by rw [eF71]; exact uF_j (by decide)).trans (show F64 (me) (10 : Int) = F (me) (10 : Int) from hM66 _ _ o_me (own_z o_me) (by rw [t_me]; rfl))))) ?_
          have b82 : (-2147483648 : Int) ≤ F (me) (10 : Int) ∧ F (me) (10 : Int) ≤ 2147483647 := by have z := HC_i (c := 2) (q := 10) hC80 o_me t_me (by decide) rfl; rw [show F79 (me) ((10 : Nat) : Int) = F (me) (10 : Int) from ((show F79 (me) (10 : Int) = F75 (me) (10 : Int) from by rw [eF79]; exact uF_j (by decide)).trans ((show F75 (me) (10 : Int) = F71 (me) (10 : Int) from by rw [eF75]; exact uF_j (by decide)).trans ((show F71 (me) (10 : Int) = F64 (me) (10 : Int) from by rw [eF71]; exact uF_j (by decide)).trans (show F64 (me) (10 : Int) = F (me) (10 : Int) from hM66 _ _ o_me (own_z o_me) (by rw [t_me]; rfl)))))] at z; exact z
          refine cx_ias (pc_q := 84) (z := 3) (y := F (me) (10 : Int)) rfl rfl y68.1 y68.2.1 (by omega) (by omega) (by omega) ?_
          obtain ⟨F83, eF83⟩ : ∃ q, q = uF F79 (F (me) (21 : Int)) (3 : Int) (F (me) (10 : Int)) := ⟨_, rfl⟩
          rw [← eF83]
          have hC84 : HC 0 m tg ln F83 := by rw [eF83]; exact HC_pi hC80 y68.1 y68.2.1 (by decide) (by omega) (by rw [(show F79 (F (me) (21 : Int)) (-1) = 0 by have z := HC_n (c := 2) (q := 21) hC80 o_me t_me (own_z o_me) (by decide) rfl; rw [show F79 (me) ((21 : Nat) : Int) = F (me) (21 : Int) from ((show F79 (me) (21 : Int) = F75 (me) (21 : Int) from by rw [eF79]; exact uF_j (by decide)).trans ((show F75 (me) (21 : Int) = F71 (me) (21 : Int) from by rw [eF75]; exact uF_j (by decide)).trans ((show F71 (me) (21 : Int) = F64 (me) (21 : Int) from by rw [eF71]; exact uF_j (by decide)).trans (show F64 (me) (21 : Int) = F (me) (21 : Int) from hM66 _ _ o_me (own_z o_me) (by rw [t_me]; rfl)))))] at z; exact z.2.2.2 (by decide))]; exact ⟨(by show (-2147483648 : Int) ≤ _; omega), (by show _ ≤ (2147483647 : Int); omega)⟩)
          have hM85 : Fq 0 [(3, 5), (3, 6), (3, 7), (3, 8), (3, 9), (3, 10), (3, 11), (3, 12), (3, 16), (3, 17), (3, 19), (3, 20), (21, -5)] m tg F F83 := by rw [eF83]; exact Fq_p hM81 y68.2.1 (fun _ => rfl) (inL_a rfl (by omega) rfl)
          refine jx_ld (pc_q := 85) (l_q := L0) (st_q := [rv (me)]) rfl (jl_rvn g1) ?_
          refine jx_ar (pc_q := 86) (st_q := [.int (i32 (1)), rv (me)]) rfl rfl rfl rfl ?_
          refine cx_pb (pc_q := 89) (c := 2) (q := 20) (qi := (20 : Int)) (z := 1) rfl rfl (by decide) (by decide) rfl rfl rfl (by decide) (by omega) rfl o_me t_me rfl ?_
          obtain ⟨F86, eF86⟩ : ∃ q, q = uF F83 (me) (20 : Int) (1) := ⟨_, rfl⟩
          rw [← eF86]
          have hC87 : HC 0 m tg ln F86 := by rw [eF86]; exact HC_fi (c := 2) (q := 20) hC84 t_me (by decide) rfl (by omega) (by omega) ⟨fun w => absurd w (by decide), fun _ => ⟨fun w => absurd w (by decide), fun w => absurd w (by decide)⟩⟩
          have hM88 : Fq 0 [(3, 5), (3, 6), (3, 7), (3, 8), (3, 9), (3, 10), (3, 11), (3, 12), (3, 16), (3, 17), (3, 19), (3, 20), (21, -5)] m tg F F86 := by rw [eF86]; exact Fq_p hM85 t_me (fun _ => rfl) rfl
          refine jx_ld (pc_q := 90) (l_q := L0) (st_q := [rv (me)]) rfl (jl_rvn g1) ?_
          refine jx_ld (pc_q := 91) (l_q := L0) (st_q := [rv (me), rv (me)]) rfl (jl_rvn g1) ?_
          refine cx_gi (pc_q := 94) (c := 2) (q := 17) (v := F (me) (17 : Int)) rfl rfl (by decide) (by decide) (Or.inl rfl) rfl o_me t_me ((show F86 (me) (17 : Int) = F83 (me) (17 : Int) from by rw [eF86]; exact uF_j (by decide)).trans ((show F83 (me) (17 : Int) = F79 (me) (17 : Int) from by rw [eF83]; exact uF_j (by decide)).trans ((show F79 (me) (17 : Int) = F75 (me) (17 : Int) from by rw [eF79]; exact uF_j (by decide)).trans ((show F75 (me) (17 : Int) = F71 (me) (17 : Int) from by rw [eF75]; exact uF_j (by decide)).trans ((show F71 (me) (17 : Int) = F64 (me) (17 : Int) from by rw [eF71]; exact uF_j (by decide)).trans (show F64 (me) (17 : Int) = F (me) (17 : Int) from hM66 _ _ o_me (own_z o_me) (by rw [t_me]; rfl))))))) ?_
          refine jx_ld (pc_q := 95) (l_q := L0) (st_q := [rv (me), .int (i32 (F (me) (17 : Int))), rv (me)]) rfl (jl_rvn g1) ?_
          refine cx_vi (c := 2) (a := me) (st := [.int (i32 (F (me) (17 : Int))), rv (me)]) (as := []) rfl rfl rfl o_me t_me (by decide) rfl ⟨rfl, rfl, (by rw [jS_i, jS_r, jS_0]; exact Nat.le_of_ble_eq_true rfl)⟩ rfl (k_LCore_self (dd := d) (R := R) (m := m) (tg := tg) (ln := ln) (F := F86) (me := me) (hd := by omega) (hC := hC87) (o_me := o_me) (t_me := t_me)) (fun o V_q hq => ?_)
          obtain ⟨r89, rfl, rfl, b90, -⟩ := hq
          refine Or.inr (Or.inl ⟨_, rfl, ?_⟩)
          refine cx_vi (c := 2) (a := me) (st := []) (as := [.int (i32 (F (me) (17 : Int))), .int (i32 (r89))]) rfl rfl rfl o_me t_me (by decide) rfl ⟨rfl, rfl, (Nat.le_of_ble_eq_true rfl)⟩ rfl (k_LCore_insert (dd := d) (R := R) (m := m) (tg := tg) (ln := ln) (F := F86) (me := me) (a0 := F (me) (17 : Int)) (a1 := r89) (hd := by omega) (hC := hC87) (o_me := o_me) (t_me := t_me) (h_a0 := by omega) (h_a1 := by omega)) (fun o V_q hq => ?_)
          obtain ⟨F91, rfl, rfl, hC92, hM93, -⟩ := hq
          have hM94 : Fq 0 [(3, 5), (3, 6), (3, 7), (3, 8), (3, 9), (3, 10), (3, 11), (3, 12), (3, 16), (3, 17), (3, 19), (3, 20), (21, -5)] m tg F F91 := Fq_t (ln := ln) (ln1 := ln) hM88 Ex_r hM93 (by decide) (Or.inl rfl)
          refine Or.inl ⟨rfl, ?_⟩
          refine jx_ld (pc_q := 102) (l_q := L0) (st_q := [rv (me)]) rfl (jl_rvn g1) ?_
          refine cx_vi (c := 2) (a := me) (st := []) (as := []) rfl rfl rfl o_me t_me (by decide) rfl ⟨rfl, rfl, (Nat.le_of_ble_eq_true rfl)⟩ rfl (k_LCore_leave (dd := d) (R := R) (m := m) (tg := tg) (ln := ln) (F := F91) (me := me) (hd := by omega) (hC := hC92) (o_me := o_me) (t_me := t_me)) (fun o V_q hq => ?_)
          obtain ⟨F95, rfl, rfl, hC96, hM97, -⟩ := hq
          have hM98 : Fq 0 [(3, 5), (3, 6), (3, 7), (3, 8), (3, 9), (3, 10), (3, 11), (3, 12), (3, 16), (3, 17), (3, 19), (3, 20), (21, -5)] m tg F F95 := Fq_t (ln := ln) (ln1 := ln) hM94 Ex_r hM97 (by decide) (Or.inl rfl)
          refine Or.inl ⟨rfl, ?_⟩
          refine jx_ld (pc_q := 106) (l_q := L0) (st_q := [rv (me)]) rfl (jl_rvn g1) ?_
          refine cx_vi (c := 2) (a := me) (st := []) (as := []) rfl rfl rfl o_me t_me (by decide) rfl ⟨rfl, rfl, (Nat.le_of_ble_eq_true rfl)⟩ rfl (k_LCore_dispatch (dd := d) (R := R) (m := m) (tg := tg) (ln := ln) (F := F95) (me := me) (hd := by omega) (hC := hC96) (o_me := o_me) (t_me := t_me)) (fun o V_q hq => ?_)
          obtain ⟨F99, rfl, rfl, hC100, hM101, -⟩ := hq
          have hM102 : Fq 0 [(3, 5), (3, 6), (3, 7), (3, 8), (3, 9), (3, 10), (3, 11), (3, 12), (3, 16), (3, 17), (3, 19), (3, 20), (21, -5)] m tg F F99 := Fq_t (ln := ln) (ln1 := ln) hM98 Ex_r hM101 (by decide) (Or.inl rfl)
          refine Or.inl ⟨rfl, ?_⟩
          refine jx_rt (v := none) rfl rfl rfl rfl rfl rfl ?_
          exact ⟨F99, rfl, rfl, hC100, hM102, trivial⟩
      · have _q := h55
        refine jx_rt (v := none) rfl rfl rfl rfl rfl rfl ?_
        exact ⟨F, rfl, rfl, hC, hM0, trivial⟩
set_option maxRecDepth 20000 in
set_option maxHeartbeats 4000000 in
theorem k_LCore_fail {X : jX} {dd : Nat} {R : Nat → jC} {m : Nat} {tg ln : Int → Int} {F : Int → Int → Int} {me : Int} (hd : 3 ≤ dd) (hC : HC 0 m tg ln F) (o_me : own m me) (t_me : tg me = 3) : wk X dd 98 [rv me] (cV R m tg ln F) (fun o V_q => ∃ (F_q : Int → Int → Int), V_q = cV R m tg ln F_q ∧ o = .inl none ∧ HC 0 m tg ln F_q ∧ Fq 0 [(3, 5), (3, 6), (3, 7), (3, 8), (3, 9), (3, 10), (3, 11), (3, 13), (3, 19)] m tg F F_q ∧ True) := by
  obtain ⟨d, rfl⟩ : ∃ d, dd = d + 1 := ⟨dd - 1, by omega⟩
  refine wk_of (e := jm98) rfl (by rw [jS_r, jS_0]; exact Nat.le_of_ble_eq_true rfl) ?_
  rw [la_r, la_0]
  show wj X d jm98 (0, [(0, rv (me))], [], cV R m tg ln F) _
  have hM0 : Fq 0 [(3, 5), (3, 6), (3, 7), (3, 8), (3, 9), (3, 10), (3, 11), (3, 13), (3, 19)] m tg F F := Fq_r
  obtain ⟨L0, eL0⟩ : ∃ q : jL, q = [(0, rv (me))] := ⟨_, rfl⟩
  rw [← eL0]
  have g1 : jGet L0 0 = some (rv (me)) := eL0 ▸ (rfl : jGet [(0, rv (me))] 0 = some (rv (me)))
  clear eL0
  refine jx_ld (pc_q := 1) (l_q := L0) (st_q := [rv (me)]) rfl (jl_rvn g1) ?_
  refine jx_ar (pc_q := 2) (st_q := [.int (i32 (1)), rv (me)]) rfl rfl rfl rfl ?_
  refine cx_pi (pc_q := 5) (c := 2) (q := 13) (qi := (13 : Int)) (z := 1) rfl rfl (by decide) (by decide) rfl rfl rfl (by decide) rfl o_me t_me rfl ?_
  obtain ⟨F2, eF2⟩ : ∃ q, q = uF F (me) (13 : Int) (1) := ⟨_, rfl⟩
  rw [← eF2]
  have hC3 : HC 0 m tg ln F2 := by rw [eF2]; exact HC_fi (c := 2) (q := 13) hC t_me (by decide) rfl (by omega) (by omega) ⟨fun w => absurd w (by decide), fun _ => ⟨fun w => absurd w (by decide), fun w => absurd w (by decide)⟩⟩
  have hM4 : Fq 0 [(3, 5), (3, 6), (3, 7), (3, 8), (3, 9), (3, 10), (3, 11), (3, 13), (3, 19)] m tg F F2 := by rw [eF2]; exact Fq_p hM0 t_me (fun _ => rfl) rfl
  refine jx_ld (pc_q := 6) (l_q := L0) (st_q := [rv (me)]) rfl (jl_rvn g1) ?_
  refine cx_vi (c := 2) (a := me) (st := []) (as := []) rfl rfl rfl o_me t_me (by decide) rfl ⟨rfl, rfl, (Nat.le_of_ble_eq_true rfl)⟩ rfl (k_LCore_leave (dd := d) (R := R) (m := m) (tg := tg) (ln := ln) (F := F2) (me := me) (hd := by omega) (hC := hC3) (o_me := o_me) (t_me := t_me)) (fun o V_q hq => ?_)
  obtain ⟨F5, rfl, rfl, hC6, hM7, -⟩ := hq
  have hM8 : Fq 0 [(3, 5), (3, 6), (3, 7), (3, 8), (3, 9), (3, 10), (3, 11), (3, 13), (3, 19)] m tg F F5 := Fq_t (ln := ln) (ln1 := ln) hM4 Ex_r hM7 (by decide) (Or.inl rfl)
  refine Or.inl ⟨rfl, ?_⟩
  refine jx_rt (v := none) rfl rfl rfl rfl rfl rfl ?_
  exact ⟨F5, rfl, rfl, hC6, hM8, trivial⟩
set_option maxRecDepth 20000 in
set_option maxHeartbeats 4000000 in
theorem k_LCore_waitHere {X : jX} {dd : Nat} {R : Nat → jC} {m : Nat} {tg ln : Int → Int} {F : Int → Int → Int} {me : Int} (hd : 3 ≤ dd) (hC : HC 0 m tg ln F) (o_me : own m me) (t_me : tg me = 3) : wk X dd 99 [rv me] (cV R m tg ln F) (fun o V_q => ∃ (F_q : Int → Int → Int), V_q = cV R m tg ln F_q ∧ o = .inl none ∧ HC 0 m tg ln F_q ∧ Fq 0 [(3, 5), (3, 6), (3, 7), (3, 8), (3, 9), (3, 10), (3, 11), (3, 19), (21, -5)] m tg F F_q ∧ True) := by
  obtain ⟨d, rfl⟩ : ∃ d, dd = d + 1 := ⟨dd - 1, by omega⟩
  refine wk_of (e := jm99) rfl (by rw [jS_r, jS_0]; exact Nat.le_of_ble_eq_true rfl) ?_
  rw [la_r, la_0]
  show wj X d jm99 (0, [(0, rv (me))], [], cV R m tg ln F) _
  have hM0 : Fq 0 [(3, 5), (3, 6), (3, 7), (3, 8), (3, 9), (3, 10), (3, 11), (3, 19), (21, -5)] m tg F F := Fq_r
  obtain ⟨L0, eL0⟩ : ∃ q : jL, q = [(0, rv (me))] := ⟨_, rfl⟩
  rw [← eL0]
  have g1 : jGet L0 0 = some (rv (me)) := eL0 ▸ (rfl : jGet [(0, rv (me))] 0 = some (rv (me)))
  clear eL0
  refine jx_ld (pc_q := 1) (l_q := L0) (st_q := [rv (me)]) rfl (jl_rvn g1) ?_
  refine jx_ld (pc_q := 2) (l_q := L0) (st_q := [rv (me), rv (me)]) rfl (jl_rvn g1) ?_
  refine cx_gi (pc_q := 5) (c := 2) (q := 9) (v := F (me) (9 : Int)) rfl rfl (by decide) (by decide) (Or.inl rfl) rfl o_me t_me rfl ?_
  have b2 : (-2147483648 : Int) ≤ F (me) (9 : Int) ∧ F (me) (9 : Int) ≤ 2147483647 := by have z := HC_i (c := 2) (q := 9) hC o_me t_me (by decide) rfl; rw [show F (me) ((9 : Nat) : Int) = F (me) (9 : Int) from rfl] at z; exact z
  refine jx_ar (pc_q := 6) (st_q := [.int (i32 (1)), .int (i32 (F (me) (9 : Int))), rv (me)]) rfl rfl rfl rfl ?_
  refine jx_sub (pc_q := 7) rfl rfl ?_
  obtain ⟨z3, ez3⟩ : ∃ q, q = (i32 ((F (me) (9 : Int) - 1))).toInt := ⟨_, rfl⟩
  have bz3 : (-2147483648 : Int) ≤ z3 ∧ z3 ≤ 2147483647 := ez3 ▸ i32_rg _
  rw [show i32 ((F (me) (9 : Int) - 1)) = i32 z3 by rw [ez3, i32_of]]
  clear ez3
  refine jx_ld (pc_q := 8) (l_q := L0) (st_q := [rv (me), .int (i32 (z3)), rv (me)]) rfl (jl_rvn g1) ?_
  refine cx_gi (pc_q := 11) (c := 2) (q := 8) (v := F (me) (8 : Int)) rfl rfl (by decide) (by decide) (Or.inl rfl) rfl o_me t_me rfl ?_
  have b4 : (-2147483648 : Int) ≤ F (me) (8 : Int) ∧ F (me) (8 : Int) ≤ 2147483647 := by have z := HC_i (c := 2) (q := 8) hC o_me t_me (by decide) rfl; rw [show F (me) ((8 : Nat) : Int) = F (me) (8 : Int) from rfl] at z; exact z
  refine cx_vi (c := 2) (a := me) (st := []) (as := [.int (i32 (z3)), .int (i32 (F (me) (8 : Int)))]) rfl rfl rfl o_me t_me (by decide) rfl ⟨rfl, rfl, (Nat.le_of_ble_eq_true rfl)⟩ rfl (k_LCore_poke (dd := d) (R := R) (m := m) (tg := tg) (ln := ln) (F := F) (me := me) (a0 := z3) (a1 := F (me) (8 : Int)) (hd := by omega) (hC := hC) (o_me := o_me) (t_me := t_me) (h_a0 := by omega) (h_a1 := by omega)) (fun o V_q hq => ?_)
  obtain ⟨F5, rfl, rfl, hC6, hM7, -⟩ := hq
  have hM8 : Fq 0 [(3, 5), (3, 6), (3, 7), (3, 8), (3, 9), (3, 10), (3, 11), (3, 19), (21, -5)] m tg F F5 := Fq_t (ln := ln) (ln1 := ln) hM0 Ex_r hM7 (by decide) (Or.inl rfl)
  refine Or.inl ⟨rfl, ?_⟩
  refine jx_ld (pc_q := 15) (l_q := L0) (st_q := [rv (me)]) rfl (jl_rvn g1) ?_
  refine cx_vi (c := 2) (a := me) (st := []) (as := []) rfl rfl rfl o_me t_me (by decide) rfl ⟨rfl, rfl, (Nat.le_of_ble_eq_true rfl)⟩ rfl (k_LCore_leave (dd := d) (R := R) (m := m) (tg := tg) (ln := ln) (F := F5) (me := me) (hd := by omega) (hC := hC6) (o_me := o_me) (t_me := t_me)) (fun o V_q hq => ?_)
  obtain ⟨F9, rfl, rfl, hC10, hM11, -⟩ := hq
  have hM12 : Fq 0 [(3, 5), (3, 6), (3, 7), (3, 8), (3, 9), (3, 10), (3, 11), (3, 19), (21, -5)] m tg F F9 := Fq_t (ln := ln) (ln1 := ln) hM8 Ex_r hM11 (by decide) (Or.inl rfl)
  refine Or.inl ⟨rfl, ?_⟩
  refine jx_rt (v := none) rfl rfl rfl rfl rfl rfl ?_
  exact ⟨F9, rfl, rfl, hC10, hM12, trivial⟩
set_option maxRecDepth 20000 in
set_option maxHeartbeats 4000000 in
theorem k_LCore_waitAt {X : jX} {dd : Nat} {R : Nat → jC} {m : Nat} {tg ln : Int → Int} {F : Int → Int → Int} {me a0 a1 : Int} (hd : 3 ≤ dd) (hC : HC 0 m tg ln F) (o_me : own m me) (t_me : tg me = 3) (h_a0 : (-2147483648 : Int) ≤ a0 ∧ a0 ≤ 2147483647) (h_a1 : (-2147483648 : Int) ≤ a1 ∧ a1 ≤ 2147483647) : wk X dd 100 [rv me, .int (i32 a0), .int (i32 a1)] (cV R m tg ln F) (fun o V_q => ∃ (F_q : Int → Int → Int), V_q = cV R m tg ln F_q ∧ o = .inl none ∧ HC 0 m tg ln F_q ∧ Fq 0 [(3, 5), (3, 6), (3, 7), (3, 8), (3, 9), (3, 10), (3, 11), (3, 19), (21, -5)] m tg F F_q ∧ True) := by
  obtain ⟨d, rfl⟩ : ∃ d, dd = d + 1 := ⟨dd - 1, by omega⟩
  refine wk_of (e := jm100) rfl (by rw [jS_r, jS_i, jS_i, jS_0]; exact Nat.le_of_ble_eq_true rfl) ?_
  rw [la_r, la_i, la_i, la_0]
  show wj X d jm100 (0, [(0, rv (me)), (1, .int (i32 (a0))), (2, .int (i32 (a1)))], [], cV R m tg ln F) _
  have hM0 : Fq 0 [(3, 5), (3, 6), (3, 7), (3, 8), (3, 9), (3, 10), (3, 11), (3, 19), (21, -5)] m tg F F := Fq_r
  obtain ⟨L0, eL0⟩ : ∃ q : jL, q = [(0, rv (me)), (1, .int (i32 (a0))), (2, .int (i32 (a1)))] := ⟨_, rfl⟩
  rw [← eL0]
  have g1 : jGet L0 0 = some (rv (me)) := eL0 ▸ (rfl : jGet [(0, rv (me)), (1, .int (i32 (a0))), (2, .int (i32 (a1)))] 0 = some (rv (me)))
  have g2 : jGet L0 1 = some (.int (i32 (a0))) := eL0 ▸ (rfl : jGet [(0, rv (me)), (1, .int (i32 (a0))), (2, .int (i32 (a1)))] 1 = some (.int (i32 (a0))))
  have g3 : jGet L0 2 = some (.int (i32 (a1))) := eL0 ▸ (rfl : jGet [(0, rv (me)), (1, .int (i32 (a0))), (2, .int (i32 (a1)))] 2 = some (.int (i32 (a1))))
  clear eL0
  refine jx_ld (pc_q := 1) (l_q := L0) (st_q := [rv (me)]) rfl (jl_rvn g1) ?_
  refine jx_ld (pc_q := 2) (l_q := L0) (st_q := [.int (i32 (a0)), rv (me)]) rfl (jl_iloadn g2) ?_
  refine jx_ld (pc_q := 3) (l_q := L0) (st_q := [rv (me), .int (i32 (a0)), rv (me)]) rfl (jl_rvn g1) ?_
  refine cx_vi (c := 2) (a := me) (st := [.int (i32 (a0)), rv (me)]) (as := []) rfl rfl rfl o_me t_me (by decide) rfl ⟨rfl, rfl, (by rw [jS_i, jS_r, jS_0]; exact Nat.le_of_ble_eq_true rfl)⟩ rfl (k_LCore_self (dd := d) (R := R) (m := m) (tg := tg) (ln := ln) (F := F) (me := me) (hd := by omega) (hC := hC) (o_me := o_me) (t_me := t_me)) (fun o V_q hq => ?_)
  obtain ⟨r4, rfl, rfl, b5, -⟩ := hq
  refine Or.inr (Or.inl ⟨_, rfl, ?_⟩)
  refine cx_vi (c := 2) (a := me) (st := []) (as := [.int (i32 (a0)), .int (i32 (r4))]) rfl rfl rfl o_me t_me (by decide) rfl ⟨rfl, rfl, (Nat.le_of_ble_eq_true rfl)⟩ rfl (k_LCore_poke (dd := d) (R := R) (m := m) (tg := tg) (ln := ln) (F := F) (me := me) (a0 := a0) (a1 := r4) (hd := by omega) (hC := hC) (o_me := o_me) (t_me := t_me) (h_a0 := by omega) (h_a1 := by omega)) (fun o V_q hq => ?_)
  obtain ⟨F6, rfl, rfl, hC7, hM8, -⟩ := hq
  have hM9 : Fq 0 [(3, 5), (3, 6), (3, 7), (3, 8), (3, 9), (3, 10), (3, 11), (3, 19), (21, -5)] m tg F F6 := Fq_t (ln := ln) (ln1 := ln) hM0 Ex_r hM8 (by decide) (Or.inl rfl)
  refine Or.inl ⟨rfl, ?_⟩
  refine jx_ld (pc_q := 10) (l_q := L0) (st_q := [rv (me)]) rfl (jl_rvn g1) ?_
  refine jx_ld (pc_q := 11) (l_q := L0) (st_q := [rv (me), rv (me)]) rfl (jl_rvn g1) ?_
  refine cx_gi (pc_q := 14) (c := 2) (q := 9) (v := F (me) (9 : Int)) rfl rfl (by decide) (by decide) (Or.inl rfl) rfl o_me t_me (show F6 (me) (9 : Int) = F (me) (9 : Int) from hM8 _ _ o_me (own_z o_me) (by rw [t_me]; rfl)) ?_
  have b10 : (-2147483648 : Int) ≤ F (me) (9 : Int) ∧ F (me) (9 : Int) ≤ 2147483647 := by have z := HC_i (c := 2) (q := 9) hC7 o_me t_me (by decide) rfl; rw [show F6 (me) ((9 : Nat) : Int) = F (me) (9 : Int) from (show F6 (me) (9 : Int) = F (me) (9 : Int) from hM8 _ _ o_me (own_z o_me) (by rw [t_me]; rfl))] at z; exact z
  refine jx_ar (pc_q := 15) (st_q := [.int (i32 (1)), .int (i32 (F (me) (9 : Int))), rv (me)]) rfl rfl rfl rfl ?_
  refine jx_sub (pc_q := 16) rfl rfl ?_
  obtain ⟨z11, ez11⟩ : ∃ q, q = (i32 ((F (me) (9 : Int) - 1))).toInt := ⟨_, rfl⟩
  have bz11 : (-2147483648 : Int) ≤ z11 ∧ z11 ≤ 2147483647 := ez11 ▸ i32_rg _
  rw [show i32 ((F (me) (9 : Int) - 1)) = i32 z11 by rw [ez11, i32_of]]
  clear ez11
  refine jx_ld (pc_q := 17) (l_q := L0) (st_q := [rv (me), .int (i32 (z11)), rv (me)]) rfl (jl_rvn g1) ?_
  refine cx_gi (pc_q := 20) (c := 2) (q := 8) (v := F (me) (8 : Int)) rfl rfl (by decide) (by decide) (Or.inl rfl) rfl o_me t_me (show F6 (me) (8 : Int) = F (me) (8 : Int) from hM8 _ _ o_me (own_z o_me) (by rw [t_me]; rfl)) ?_
  have b12 : (-2147483648 : Int) ≤ F (me) (8 : Int) ∧ F (me) (8 : Int) ≤ 2147483647 := by have z := HC_i (c := 2) (q := 8) hC7 o_me t_me (by decide) rfl; rw [show F6 (me) ((8 : Nat) : Int) = F (me) (8 : Int) from (show F6 (me) (8 : Int) = F (me) (8 : Int) from hM8 _ _ o_me (own_z o_me) (by rw [t_me]; rfl))] at z; exact z
  refine cx_vi (c := 2) (a := me) (st := []) (as := [.int (i32 (z11)), .int (i32 (F (me) (8 : Int)))]) rfl rfl rfl o_me t_me (by decide) rfl ⟨rfl, rfl, (Nat.le_of_ble_eq_true rfl)⟩ rfl (k_LCore_poke (dd := d) (R := R) (m := m) (tg := tg) (ln := ln) (F := F6) (me := me) (a0 := z11) (a1 := F (me) (8 : Int)) (hd := by omega) (hC := hC7) (o_me := o_me) (t_me := t_me) (h_a0 := by omega) (h_a1 := by omega)) (fun o V_q hq => ?_)
  obtain ⟨F13, rfl, rfl, hC14, hM15, -⟩ := hq
  have hM16 : Fq 0 [(3, 5), (3, 6), (3, 7), (3, 8), (3, 9), (3, 10), (3, 11), (3, 19), (21, -5)] m tg F F13 := Fq_t (ln := ln) (ln1 := ln) hM9 Ex_r hM15 (by decide) (Or.inl rfl)
  refine Or.inl ⟨rfl, ?_⟩
  refine jx_ld (pc_q := 24) (l_q := L0) (st_q := [rv (me)]) rfl (jl_rvn g1) ?_
  refine jx_ld (pc_q := 25) (l_q := L0) (st_q := [rv (me), rv (me)]) rfl (jl_rvn g1) ?_
  refine cx_gi (pc_q := 28) (c := 2) (q := 9) (v := F (me) (9 : Int)) rfl rfl (by decide) (by decide) (Or.inl rfl) rfl o_me t_me ((show F13 (me) (9 : Int) = F6 (me) (9 : Int) from hM15 _ _ o_me (own_z o_me) (by rw [t_me]; rfl)).trans (show F6 (me) (9 : Int) = F (me) (9 : Int) from hM8 _ _ o_me (own_z o_me) (by rw [t_me]; rfl))) ?_
  refine jx_ar (pc_q := 29) (st_q := [.int (i32 (2)), .int (i32 (F (me) (9 : Int))), rv (me)]) rfl rfl rfl rfl ?_
  refine jx_sub (pc_q := 30) rfl rfl ?_
  obtain ⟨z17, ez17⟩ : ∃ q, q = (i32 ((F (me) (9 : Int) - 2))).toInt := ⟨_, rfl⟩
  have bz17 : (-2147483648 : Int) ≤ z17 ∧ z17 ≤ 2147483647 := ez17 ▸ i32_rg _
  rw [show i32 ((F (me) (9 : Int) - 2)) = i32 z17 by rw [ez17, i32_of]]
  clear ez17
  refine jx_ld (pc_q := 31) (l_q := L0) (st_q := [.int (i32 (a1)), .int (i32 (z17)), rv (me)]) rfl (jl_iloadn g3) ?_
  refine cx_vi (c := 2) (a := me) (st := []) (as := [.int (i32 (z17)), .int (i32 (a1))]) rfl rfl rfl o_me t_me (by decide) rfl ⟨rfl, rfl, (Nat.le_of_ble_eq_true rfl)⟩ rfl (k_LCore_poke (dd := d) (R := R) (m := m) (tg := tg) (ln := ln) (F := F13) (me := me) (a0 := z17) (a1 := a1) (hd := by omega) (hC := hC14) (o_me := o_me) (t_me := t_me) (h_a0 := by omega) (h_a1 := by omega)) (fun o V_q hq => ?_)
  obtain ⟨F18, rfl, rfl, hC19, hM20, -⟩ := hq
  have hM21 : Fq 0 [(3, 5), (3, 6), (3, 7), (3, 8), (3, 9), (3, 10), (3, 11), (3, 19), (21, -5)] m tg F F18 := Fq_t (ln := ln) (ln1 := ln) hM16 Ex_r hM20 (by decide) (Or.inl rfl)
  refine Or.inl ⟨rfl, ?_⟩
  refine jx_ld (pc_q := 35) (l_q := L0) (st_q := [rv (me)]) rfl (jl_rvn g1) ?_
  refine jx_ld (pc_q := 36) (l_q := L0) (st_q := [rv (me), rv (me)]) rfl (jl_rvn g1) ?_
  refine cx_gi (pc_q := 39) (c := 2) (q := 9) (v := F (me) (9 : Int)) rfl rfl (by decide) (by decide) (Or.inl rfl) rfl o_me t_me ((show F18 (me) (9 : Int) = F13 (me) (9 : Int) from hM20 _ _ o_me (own_z o_me) (by rw [t_me]; rfl)).trans ((show F13 (me) (9 : Int) = F6 (me) (9 : Int) from hM15 _ _ o_me (own_z o_me) (by rw [t_me]; rfl)).trans (show F6 (me) (9 : Int) = F (me) (9 : Int) from hM8 _ _ o_me (own_z o_me) (by rw [t_me]; rfl)))) ?_
  refine jx_ar (pc_q := 40) (st_q := [.int (i32 (3)), .int (i32 (F (me) (9 : Int))), rv (me)]) rfl rfl rfl rfl ?_
  refine jx_sub (pc_q := 41) rfl rfl ?_
  obtain ⟨z22, ez22⟩ : ∃ q, q = (i32 ((F (me) (9 : Int) - 3))).toInt := ⟨_, rfl⟩
  have bz22 : (-2147483648 : Int) ≤ z22 ∧ z22 ≤ 2147483647 := ez22 ▸ i32_rg _
  rw [show i32 ((F (me) (9 : Int) - 3)) = i32 z22 by rw [ez22, i32_of]]
  clear ez22
  refine jx_ar (pc_q := 42) (st_q := [.int (i32 (0)), .int (i32 (z22)), rv (me)]) rfl rfl rfl rfl ?_
  refine cx_vi (c := 2) (a := me) (st := []) (as := [.int (i32 (z22)), .int (i32 (0))]) rfl rfl rfl o_me t_me (by decide) rfl ⟨rfl, rfl, (Nat.le_of_ble_eq_true rfl)⟩ rfl (k_LCore_poke (dd := d) (R := R) (m := m) (tg := tg) (ln := ln) (F := F18) (me := me) (a0 := z22) (a1 := 0) (hd := by omega) (hC := hC19) (o_me := o_me) (t_me := t_me) (h_a0 := by omega) (h_a1 := by omega)) (fun o V_q hq => ?_)
  obtain ⟨F23, rfl, rfl, hC24, hM25, -⟩ := hq
  have hM26 : Fq 0 [(3, 5), (3, 6), (3, 7), (3, 8), (3, 9), (3, 10), (3, 11), (3, 19), (21, -5)] m tg F F23 := Fq_t (ln := ln) (ln1 := ln) hM21 Ex_r hM25 (by decide) (Or.inl rfl)
  refine Or.inl ⟨rfl, ?_⟩
  refine jx_ld (pc_q := 46) (l_q := L0) (st_q := [rv (me)]) rfl (jl_rvn g1) ?_
  refine cx_vi (c := 2) (a := me) (st := []) (as := []) rfl rfl rfl o_me t_me (by decide) rfl ⟨rfl, rfl, (Nat.le_of_ble_eq_true rfl)⟩ rfl (k_LCore_leave (dd := d) (R := R) (m := m) (tg := tg) (ln := ln) (F := F23) (me := me) (hd := by omega) (hC := hC24) (o_me := o_me) (t_me := t_me)) (fun o V_q hq => ?_)
  obtain ⟨F27, rfl, rfl, hC28, hM29, -⟩ := hq
  have hM30 : Fq 0 [(3, 5), (3, 6), (3, 7), (3, 8), (3, 9), (3, 10), (3, 11), (3, 19), (21, -5)] m tg F F27 := Fq_t (ln := ln) (ln1 := ln) hM26 Ex_r hM29 (by decide) (Or.inl rfl)
  refine Or.inl ⟨rfl, ?_⟩
  refine jx_rt (v := none) rfl rfl rfl rfl rfl rfl ?_
  exact ⟨F27, rfl, rfl, hC28, hM30, trivial⟩
set_option maxRecDepth 20000 in
set_option maxHeartbeats 4000000 in
theorem k_LCore_isAlt {X : jX} {dd : Nat} {R : Nat → jC} {m : Nat} {tg ln : Int → Int} {F : Int → Int → Int} {a0 : Int} (hd : 1 ≤ dd) (hC : HC 0 m tg ln F) (h_a0 : (-2147483648 : Int) ≤ a0 ∧ a0 ≤ 2147483647) : wk X dd 101 [.int (i32 a0)] (cV R m tg ln F) (fun o V_q => ∃ (r : Int), V_q = cV R m tg ln F ∧ o = .inl (some (.int (i32 r))) ∧ (0 ≤ r ∧ r ≤ 1) ∧ True) := by
  obtain ⟨d, rfl⟩ : ∃ d, dd = d + 1 := ⟨dd - 1, by omega⟩
  refine wk_of (e := jm101) rfl (by rw [jS_i, jS_0]; exact Nat.le_of_ble_eq_true rfl) ?_
  rw [la_i, la_0]
  show wj X d jm101 (0, [(0, .int (i32 (a0)))], [], cV R m tg ln F) _
  obtain ⟨L0, eL0⟩ : ∃ q : jL, q = [(0, .int (i32 (a0)))] := ⟨_, rfl⟩
  rw [← eL0]
  have g1 : jGet L0 0 = some (.int (i32 (a0))) := eL0 ▸ (rfl : jGet [(0, .int (i32 (a0)))] 0 = some (.int (i32 (a0))))
  clear eL0
  refine jx_ld (pc_q := 1) (l_q := L0) (st_q := [.int (i32 (a0))]) rfl (jl_iloadn g1) ?_
  refine jx_ar (pc_q := 2) (st_q := [.int (i32 (1)), .int (i32 (a0))]) rfl rfl rfl rfl ?_
  refine jx_icmp_lt (pc_q := 5) (tg := 14) rfl rfl rfl (by omega) (by omega) (by decide) (by decide) (fun h2 => ?_) (fun h2 => ?_)
  · have _q := h2
    refine jx_ar (pc_q := 15) (st_q := [.int (i32 (0))]) rfl rfl rfl rfl ?_
    refine jx_rt (v := some (.int (i32 (0)))) rfl rfl rfl rfl rfl (by first | rfl | exact jRet_b (by omega)) ?_
    exact ⟨(0), rfl, rfl, by omega, trivial⟩
  · have _q := h2
    refine jx_ld (pc_q := 6) (l_q := L0) (st_q := [.int (i32 (a0))]) rfl (jl_iloadn g1) ?_
    refine jx_ar (pc_q := 7) (st_q := [.int (i32 (3)), .int (i32 (a0))]) rfl rfl rfl rfl ?_
    refine jx_icmp_gt (pc_q := 10) (tg := 14) rfl rfl rfl (by omega) (by omega) (by decide) (by decide) (fun h3 => ?_) (fun h3 => ?_)
    · have _q := h3
      refine jx_ar (pc_q := 15) (st_q := [.int (i32 (0))]) rfl rfl rfl rfl ?_
      refine jx_rt (v := some (.int (i32 (0)))) rfl rfl rfl rfl rfl (by first | rfl | exact jRet_b (by omega)) ?_
      exact ⟨(0), rfl, rfl, by omega, trivial⟩
    · have _q := h3
      refine jx_ar (pc_q := 11) (st_q := [.int (i32 (1))]) rfl rfl rfl rfl ?_
      refine jx_go (tg := 15) rfl rfl ?_
      refine jx_rt (v := some (.int (i32 (1)))) rfl rfl rfl rfl rfl (by first | rfl | exact jRet_b (by omega)) ?_
      exact ⟨(1), rfl, rfl, by omega, trivial⟩
set_option maxRecDepth 20000 in
set_option maxHeartbeats 4000000 in
theorem k_LCore_alert {X : jX} {dd : Nat} {R : Nat → jC} {m : Nat} {tg ln : Int → Int} {F : Int → Int → Int} {me a0 : Int} (hd : 3 ≤ dd) (hC : HC 0 m tg ln F) (o_me : own m me) (t_me : tg me = 3) (h_a0 : (-2147483648 : Int) ≤ a0 ∧ a0 ≤ 2147483647) : wk X dd 102 [rv me, .int (i32 a0)] (cV R m tg ln F) (fun o V_q => ∃ (F_q : Int → Int → Int), V_q = cV R m tg ln F_q ∧ o = .inl none ∧ HC 0 m tg ln F_q ∧ Fq 0 [(3, 16), (3, 17), (21, -5)] m tg F F_q ∧ True) := by
  obtain ⟨d, rfl⟩ : ∃ d, dd = d + 1 := ⟨dd - 1, by omega⟩
  refine wk_of (e := jm102) rfl (by rw [jS_r, jS_i, jS_0]; exact Nat.le_of_ble_eq_true rfl) ?_
  rw [la_r, la_i, la_0]
  show wj X d jm102 (0, [(0, rv (me)), (1, .int (i32 (a0)))], [], cV R m tg ln F) _
  have hM0 : Fq 0 [(3, 16), (3, 17), (21, -5)] m tg F F := Fq_r
  obtain ⟨L0, eL0⟩ : ∃ q : jL, q = [(0, rv (me)), (1, .int (i32 (a0)))] := ⟨_, rfl⟩
  rw [← eL0]
  have g1 : jGet L0 0 = some (rv (me)) := eL0 ▸ (rfl : jGet [(0, rv (me)), (1, .int (i32 (a0)))] 0 = some (rv (me)))
  have g2 : jGet L0 1 = some (.int (i32 (a0))) := eL0 ▸ (rfl : jGet [(0, rv (me)), (1, .int (i32 (a0)))] 1 = some (.int (i32 (a0))))
  clear eL0
  refine jx_ld (pc_q := 1) (l_q := L0) (st_q := [.int (i32 (a0))]) rfl (jl_iloadn g2) ?_
  refine jx_ar (pc_q := 2) (st_q := [.int (i32 (1)), .int (i32 (a0))]) rfl rfl rfl rfl ?_
  refine jx_shr (pc_q := 3) rfl rfl ?_
  obtain ⟨z3, ez3⟩ : ∃ q, q = (i32 (a0) >>> (i32 (1) &&& 31)).toInt := ⟨_, rfl⟩
  rw [← ez3]
  have bz3 : (-2147483648 : Int) ≤ z3 ∧ z3 ≤ 2147483647 := ez3 ▸ i32_rg _
  clear ez3
  refine jx_ar (pc_q := 4) (st_q := [.int (i32 (3)), .int (i32 (z3))]) rfl rfl rfl rfl ?_
  refine jx_sub (pc_q := 5) rfl rfl ?_
  obtain ⟨z4, ez4⟩ : ∃ q, q = (i32 ((z3 - 3))).toInt := ⟨_, rfl⟩
  have bz4 : (-2147483648 : Int) ≤ z4 ∧ z4 ≤ 2147483647 := ez4 ▸ i32_rg _
  rw [show i32 ((z3 - 3)) = i32 z4 by rw [ez4, i32_of]]
  clear ez4
  refine jx_ld (pc_q := 6) (l_q := jSto1 L0 2 (.int (i32 (z4)))) (st_q := []) rfl rfl ?_
  obtain ⟨L5, eL5⟩ : ∃ q : jL, q = jSto1 L0 2 (.int (i32 (z4))) := ⟨_, rfl⟩
  rw [← eL5]
  have g6 : jGet L5 0 = some (rv (me)) := eL5 ▸ jg_nr (by decide) g1
  have g7 : jGet L5 1 = some (.int (i32 (a0))) := eL5 ▸ jg_ne (by decide) g2 rfl
  have g8 : jGet L5 2 = some (.int (i32 (z4))) := eL5 ▸ jg_eq
  clear eL5
  refine jx_ld (pc_q := 7) (l_q := L5) (st_q := [rv (me)]) rfl (jl_rvn g6) ?_
  refine jx_ld (pc_q := 8) (l_q := L5) (st_q := [.int (i32 (z4)), rv (me)]) rfl (jl_iloadn g8) ?_
  refine cx_vi (c := 2) (a := me) (st := []) (as := [.int (i32 (z4))]) rfl rfl rfl o_me t_me (by decide) rfl ⟨rfl, rfl, (Nat.le_of_ble_eq_true rfl)⟩ rfl (k_LCore_peek (dd := d) (R := R) (m := m) (tg := tg) (ln := ln) (F := F) (me := me) (a0 := z4) (hd := by omega) (hC := hC) (o_me := o_me) (t_me := t_me) (h_a0 := by omega)) (fun o V_q hq => ?_)
  obtain ⟨r9, rfl, rfl, b10, -⟩ := hq
  refine Or.inr (Or.inl ⟨_, rfl, ?_⟩)
  refine jx_ar (pc_q := 12) (st_q := [.int (i32 (2)), .int (i32 (r9))]) rfl rfl rfl rfl ?_
  refine jx_icmp_ne (pc_q := 15) (tg := 19) rfl rfl rfl (by omega) (by omega) (by decide) (by decide) (fun h11 => ?_) (fun h11 => ?_)
  · have _q := h11
    refine jx_ar (pc_q := 20) (st_q := [.int (i32 (0))]) rfl rfl rfl rfl ?_
    refine jx_ld (pc_q := 21) (l_q := jSto1 L5 3 (.int (i32 (0)))) (st_q := []) rfl rfl ?_
    obtain ⟨L12, eL12⟩ : ∃ q : jL, q = jSto1 L5 3 (.int (i32 (0))) := ⟨_, rfl⟩
    rw [← eL12]
    have g13 : jGet L12 0 = some (rv (me)) := eL12 ▸ jg_nr (by decide) g6
    have g14 : jGet L12 1 = some (.int (i32 (a0))) := eL12 ▸ jg_ne (by decide) g7 rfl
    have g15 : jGet L12 2 = some (.int (i32 (z4))) := eL12 ▸ jg_ne (by decide) g8 rfl
    have g16 : jGet L12 3 = some (.int (i32 (0))) := eL12 ▸ jg_eq
    clear eL12
    refine jx_ld (pc_q := 22) (l_q := L12) (st_q := [rv (me)]) rfl (jl_rvn g13) ?_
    refine jx_ld (pc_q := 23) (l_q := L12) (st_q := [.int (i32 (z4)), rv (me)]) rfl (jl_iloadn g15) ?_
    refine jx_ar (pc_q := 24) (st_q := [.int (i32 (3)), .int (i32 (z4)), rv (me)]) rfl rfl rfl rfl ?_
    refine cx_vi (c := 2) (a := me) (st := []) (as := [.int (i32 (z4)), .int (i32 (3))]) rfl rfl rfl o_me t_me (by decide) rfl ⟨rfl, rfl, (Nat.le_of_ble_eq_true rfl)⟩ rfl (k_LCore_poke (dd := d) (R := R) (m := m) (tg := tg) (ln := ln) (F := F) (me := me) (a0 := z4) (a1 := 3) (hd := by omega) (hC := hC) (o_me := o_me) (t_me := t_me) (h_a0 := by omega) (h_a1 := by omega)) (fun o V_q hq => ?_)
    obtain ⟨F17, rfl, rfl, hC18, hM19, -⟩ := hq
    have hM20 : Fq 0 [(3, 16), (3, 17), (21, -5)] m tg F F17 := Fq_t (ln := ln) (ln1 := ln) hM0 Ex_r hM19 (by decide) (Or.inl rfl)
    refine Or.inl ⟨rfl, ?_⟩
    refine jx_ld (pc_q := 28) (l_q := L12) (st_q := [.int (i32 (0))]) rfl (jl_iloadn g16) ?_
    refine jx_if_eq (pc_q := 31) (tg := 36) rfl rfl rfl (by decide) (by decide) (fun h21 => ?_) (fun h21 => ?_)
    · have _q := h21
      refine jx_rt (v := none) rfl rfl rfl rfl rfl rfl ?_
      exact ⟨F17, rfl, rfl, hC18, hM20, trivial⟩
    · have _q := h21
      exact absurd h21 (by omega)
  · have _q := h11
    refine jx_ar (pc_q := 16) (st_q := [.int (i32 (1))]) rfl rfl rfl rfl ?_
    refine jx_go (tg := 20) rfl rfl ?_
    refine jx_ld (pc_q := 21) (l_q := jSto1 L5 3 (.int (i32 (1)))) (st_q := []) rfl rfl ?_
    obtain ⟨L22, eL22⟩ : ∃ q : jL, q = jSto1 L5 3 (.int (i32 (1))) := ⟨_, rfl⟩
    rw [← eL22]
    have g23 : jGet L22 0 = some (rv (me)) := eL22 ▸ jg_nr (by decide) g6
    have g24 : jGet L22 1 = some (.int (i32 (a0))) := eL22 ▸ jg_ne (by decide) g7 rfl
    have g25 : jGet L22 2 = some (.int (i32 (z4))) := eL22 ▸ jg_ne (by decide) g8 rfl
    have g26 : jGet L22 3 = some (.int (i32 (1))) := eL22 ▸ jg_eq
    clear eL22
    refine jx_ld (pc_q := 22) (l_q := L22) (st_q := [rv (me)]) rfl (jl_rvn g23) ?_
    refine jx_ld (pc_q := 23) (l_q := L22) (st_q := [.int (i32 (z4)), rv (me)]) rfl (jl_iloadn g25) ?_
    refine jx_ar (pc_q := 24) (st_q := [.int (i32 (3)), .int (i32 (z4)), rv (me)]) rfl rfl rfl rfl ?_
    refine cx_vi (c := 2) (a := me) (st := []) (as := [.int (i32 (z4)), .int (i32 (3))]) rfl rfl rfl o_me t_me (by decide) rfl ⟨rfl, rfl, (Nat.le_of_ble_eq_true rfl)⟩ rfl (k_LCore_poke (dd := d) (R := R) (m := m) (tg := tg) (ln := ln) (F := F) (me := me) (a0 := z4) (a1 := 3) (hd := by omega) (hC := hC) (o_me := o_me) (t_me := t_me) (h_a0 := by omega) (h_a1 := by omega)) (fun o V_q hq => ?_)
    obtain ⟨F27, rfl, rfl, hC28, hM29, -⟩ := hq
    have hM30 : Fq 0 [(3, 16), (3, 17), (21, -5)] m tg F F27 := Fq_t (ln := ln) (ln1 := ln) hM0 Ex_r hM29 (by decide) (Or.inl rfl)
    refine Or.inl ⟨rfl, ?_⟩
    refine jx_ld (pc_q := 28) (l_q := L22) (st_q := [.int (i32 (1))]) rfl (jl_iloadn g26) ?_
    refine jx_if_eq (pc_q := 31) (tg := 36) rfl rfl rfl (by decide) (by decide) (fun h31 => ?_) (fun h31 => ?_)
    · have _q := h31
      exact absurd h31 (by omega)
    · have _q := h31
      refine jx_ld (pc_q := 32) (l_q := L22) (st_q := [rv (me)]) rfl (jl_rvn g23) ?_
      refine jx_ld (pc_q := 33) (l_q := L22) (st_q := [.int (i32 (a0)), rv (me)]) rfl (jl_iloadn g24) ?_
      refine cx_vi (c := 2) (a := me) (st := []) (as := [.int (i32 (a0))]) rfl rfl rfl o_me t_me (by decide) rfl ⟨rfl, rfl, (Nat.le_of_ble_eq_true rfl)⟩ rfl (k_LCore_wake (dd := d) (R := R) (m := m) (tg := tg) (ln := ln) (F := F27) (me := me) (a0 := a0) (hd := by omega) (hC := hC28) (o_me := o_me) (t_me := t_me) (h_a0 := by omega)) (fun o V_q hq => ?_)
      obtain ⟨F32, rfl, rfl, hC33, hM34, -⟩ := hq
      have hM35 : Fq 0 [(3, 16), (3, 17), (21, -5)] m tg F F32 := Fq_t (ln := ln) (ln1 := ln) hM30 Ex_r hM34 (by decide) (Or.inl rfl)
      refine Or.inl ⟨rfl, ?_⟩
      refine jx_rt (v := none) rfl rfl rfl rfl rfl rfl ?_
      exact ⟨F32, rfl, rfl, hC33, hM35, trivial⟩
set_option maxRecDepth 20000 in
set_option maxHeartbeats 4000000 in
theorem k_LCore_release {X : jX} {dd : Nat} {R : Nat → jC} {m : Nat} {tg ln : Int → Int} {F : Int → Int → Int} {me a0 : Int} (hd : 3 ≤ dd) (hC : HC 0 m tg ln F) (o_me : own m me) (t_me : tg me = 3) (h_a0 : (-2147483648 : Int) ≤ a0 ∧ a0 ≤ 2147483647) : wk X dd 104 [rv me, .int (i32 a0)] (cV R m tg ln F) (fun o V_q => ∃ (F_q : Int → Int → Int), V_q = cV R m tg ln F_q ∧ o = .inl none ∧ HC 0 m tg ln F_q ∧ Fq 0 [(3, 16), (3, 17), (21, -5)] m tg F F_q ∧ True) := by
  obtain ⟨d, rfl⟩ : ∃ d, dd = d + 1 := ⟨dd - 1, by omega⟩
  refine wk_of (e := jm104) rfl (by rw [jS_r, jS_i, jS_0]; exact Nat.le_of_ble_eq_true rfl) ?_
  rw [la_r, la_i, la_0]
  show wj X d jm104 (0, [(0, rv (me)), (1, .int (i32 (a0)))], [], cV R m tg ln F) _
  have hM0 : Fq 0 [(3, 16), (3, 17), (21, -5)] m tg F F := Fq_r
  obtain ⟨L0, eL0⟩ : ∃ q : jL, q = [(0, rv (me)), (1, .int (i32 (a0)))] := ⟨_, rfl⟩
  rw [← eL0]
  have g1 : jGet L0 0 = some (rv (me)) := eL0 ▸ (rfl : jGet [(0, rv (me)), (1, .int (i32 (a0)))] 0 = some (rv (me)))
  have g2 : jGet L0 1 = some (.int (i32 (a0))) := eL0 ▸ (rfl : jGet [(0, rv (me)), (1, .int (i32 (a0)))] 1 = some (.int (i32 (a0))))
  clear eL0
  refine jx_ld (pc_q := 1) (l_q := L0) (st_q := [rv (me)]) rfl (jl_rvn g1) ?_
  refine jx_ld (pc_q := 2) (l_q := L0) (st_q := [.int (i32 (a0)), rv (me)]) rfl (jl_iloadn g2) ?_
  refine cx_vi (c := 2) (a := me) (st := []) (as := [.int (i32 (a0))]) rfl rfl rfl o_me t_me (by decide) rfl ⟨rfl, rfl, (Nat.le_of_ble_eq_true rfl)⟩ rfl (k_LCore_peek (dd := d) (R := R) (m := m) (tg := tg) (ln := ln) (F := F) (me := me) (a0 := a0) (hd := by omega) (hC := hC) (o_me := o_me) (t_me := t_me) (h_a0 := by omega)) (fun o V_q hq => ?_)
  obtain ⟨r3, rfl, rfl, b4, -⟩ := hq
  refine Or.inr (Or.inl ⟨_, rfl, ?_⟩)
  refine jx_ld (pc_q := 6) (l_q := jSto1 L0 2 (.int (i32 (r3)))) (st_q := []) rfl rfl ?_
  obtain ⟨L5, eL5⟩ : ∃ q : jL, q = jSto1 L0 2 (.int (i32 (r3))) := ⟨_, rfl⟩
  rw [← eL5]
  have g6 : jGet L5 0 = some (rv (me)) := eL5 ▸ jg_nr (by decide) g1
  have g7 : jGet L5 1 = some (.int (i32 (a0))) := eL5 ▸ jg_ne (by decide) g2 rfl
  have g8 : jGet L5 2 = some (.int (i32 (r3))) := eL5 ▸ jg_eq
  clear eL5
  refine jx_ld (pc_q := 7) (l_q := L5) (st_q := [.int (i32 (r3))]) rfl (jl_iloadn g8) ?_
  refine jx_ar (pc_q := 8) (st_q := [.int (i32 (-1)), .int (i32 (r3))]) rfl rfl rfl rfl ?_
  refine jx_icmp_eq (pc_q := 11) (tg := 22) rfl rfl rfl (by omega) (by omega) (by decide) (by decide) (fun h9 => ?_) (fun h9 => ?_)
  · have _q := h9
    refine jx_rt (v := none) rfl rfl rfl rfl rfl rfl ?_
    exact ⟨F, rfl, rfl, hC, hM0, trivial⟩
  · have _q := h9
    refine jx_ld (pc_q := 12) (l_q := L5) (st_q := [rv (me)]) rfl (jl_rvn g6) ?_
    refine jx_ld (pc_q := 13) (l_q := L5) (st_q := [.int (i32 (a0)), rv (me)]) rfl (jl_iloadn g7) ?_
    refine jx_ar (pc_q := 14) (st_q := [.int (i32 (-1)), .int (i32 (a0)), rv (me)]) rfl rfl rfl rfl ?_
    refine cx_vi (c := 2) (a := me) (st := []) (as := [.int (i32 (a0)), .int (i32 (-1))]) rfl rfl rfl o_me t_me (by decide) rfl ⟨rfl, rfl, (Nat.le_of_ble_eq_true rfl)⟩ rfl (k_LCore_poke (dd := d) (R := R) (m := m) (tg := tg) (ln := ln) (F := F) (me := me) (a0 := a0) (a1 := -1) (hd := by omega) (hC := hC) (o_me := o_me) (t_me := t_me) (h_a0 := by omega) (h_a1 := by omega)) (fun o V_q hq => ?_)
    obtain ⟨F10, rfl, rfl, hC11, hM12, -⟩ := hq
    have hM13 : Fq 0 [(3, 16), (3, 17), (21, -5)] m tg F F10 := Fq_t (ln := ln) (ln1 := ln) hM0 Ex_r hM12 (by decide) (Or.inl rfl)
    refine Or.inl ⟨rfl, ?_⟩
    refine jx_ld (pc_q := 18) (l_q := L5) (st_q := [rv (me)]) rfl (jl_rvn g6) ?_
    refine jx_ld (pc_q := 19) (l_q := L5) (st_q := [.int (i32 (r3)), rv (me)]) rfl (jl_iloadn g8) ?_
    refine cx_vi (c := 2) (a := me) (st := []) (as := [.int (i32 (r3))]) rfl rfl rfl o_me t_me (by decide) rfl ⟨rfl, rfl, (Nat.le_of_ble_eq_true rfl)⟩ rfl (k_LCore_wake (dd := d) (R := R) (m := m) (tg := tg) (ln := ln) (F := F10) (me := me) (a0 := r3) (hd := by omega) (hC := hC11) (o_me := o_me) (t_me := t_me) (h_a0 := by omega)) (fun o V_q hq => ?_)
    obtain ⟨F14, rfl, rfl, hC15, hM16, -⟩ := hq
    have hM17 : Fq 0 [(3, 16), (3, 17), (21, -5)] m tg F F14 := Fq_t (ln := ln) (ln1 := ln) hM13 Ex_r hM16 (by decide) (Or.inl rfl)
    refine Or.inl ⟨rfl, ?_⟩
    refine jx_rt (v := none) rfl rfl rfl rfl rfl rfl ?_
    exact ⟨F14, rfl, rfl, hC15, hM17, trivial⟩
set_option maxRecDepth 20000 in
set_option maxHeartbeats 4000000 in
theorem k_LCore_receive {X : jX} {dd : Nat} {R : Nat → jC} {m : Nat} {tg ln : Int → Int} {F : Int → Int → Int} {me a0 a1 : Int} (hd : 4 ≤ dd) (hC : HC 0 m tg ln F) (o_me : own m me) (t_me : tg me = 3) (h_a0 : (-2147483648 : Int) ≤ a0 ∧ a0 ≤ 2147483647) (h_a1 : (-2147483648 : Int) ≤ a1 ∧ a1 ≤ 2147483647) : wk X dd 103 [rv me, .int (i32 a0), .int (i32 a1)] (cV R m tg ln F) (fun o V_q => ∃ (F_q : Int → Int → Int) (r : Int), V_q = cV R m tg ln F_q ∧ o = .inl (some (.int (i32 r))) ∧ HC 0 m tg ln F_q ∧ Fq 0 [(3, 16), (3, 17), (21, -5)] m tg F F_q ∧ (0 ≤ r ∧ r ≤ 1) ∧ True) := by
  obtain ⟨d, rfl⟩ : ∃ d, dd = d + 1 := ⟨dd - 1, by omega⟩
  refine wk_of (e := jm103) rfl (by rw [jS_r, jS_i, jS_i, jS_0]; exact Nat.le_of_ble_eq_true rfl) ?_
  rw [la_r, la_i, la_i, la_0]
  show wj X d jm103 (0, [(0, rv (me)), (1, .int (i32 (a0))), (2, .int (i32 (a1)))], [], cV R m tg ln F) _
  have hM0 : Fq 0 [(3, 16), (3, 17), (21, -5)] m tg F F := Fq_r
  obtain ⟨L0, eL0⟩ : ∃ q : jL, q = [(0, rv (me)), (1, .int (i32 (a0))), (2, .int (i32 (a1)))] := ⟨_, rfl⟩
  rw [← eL0]
  have g1 : jGet L0 0 = some (rv (me)) := eL0 ▸ (rfl : jGet [(0, rv (me)), (1, .int (i32 (a0))), (2, .int (i32 (a1)))] 0 = some (rv (me)))
  have g2 : jGet L0 1 = some (.int (i32 (a0))) := eL0 ▸ (rfl : jGet [(0, rv (me)), (1, .int (i32 (a0))), (2, .int (i32 (a1)))] 1 = some (.int (i32 (a0))))
  have g3 : jGet L0 2 = some (.int (i32 (a1))) := eL0 ▸ (rfl : jGet [(0, rv (me)), (1, .int (i32 (a0))), (2, .int (i32 (a1)))] 2 = some (.int (i32 (a1))))
  clear eL0
  refine jx_ld (pc_q := 1) (l_q := L0) (st_q := [rv (me)]) rfl (jl_rvn g1) ?_
  refine jx_ld (pc_q := 2) (l_q := L0) (st_q := [.int (i32 (a0)), rv (me)]) rfl (jl_iloadn g2) ?_
  refine cx_vi (c := 2) (a := me) (st := []) (as := [.int (i32 (a0))]) rfl rfl rfl o_me t_me (by decide) rfl ⟨rfl, rfl, (Nat.le_of_ble_eq_true rfl)⟩ rfl (k_LCore_peek (dd := d) (R := R) (m := m) (tg := tg) (ln := ln) (F := F) (me := me) (a0 := a0) (hd := by omega) (hC := hC) (o_me := o_me) (t_me := t_me) (h_a0 := by omega)) (fun o V_q hq => ?_)
  obtain ⟨r4, rfl, rfl, b5, -⟩ := hq
  refine Or.inr (Or.inl ⟨_, rfl, ?_⟩)
  refine jx_ld (pc_q := 6) (l_q := jSto1 L0 3 (.int (i32 (r4)))) (st_q := []) rfl rfl ?_
  obtain ⟨L6, eL6⟩ : ∃ q : jL, q = jSto1 L0 3 (.int (i32 (r4))) := ⟨_, rfl⟩
  rw [← eL6]
  have g7 : jGet L6 0 = some (rv (me)) := eL6 ▸ jg_nr (by decide) g1
  have g8 : jGet L6 1 = some (.int (i32 (a0))) := eL6 ▸ jg_ne (by decide) g2 rfl
  have g9 : jGet L6 2 = some (.int (i32 (a1))) := eL6 ▸ jg_ne (by decide) g3 rfl
  have g10 : jGet L6 3 = some (.int (i32 (r4))) := eL6 ▸ jg_eq
  clear eL6
  refine jx_ld (pc_q := 7) (l_q := L6) (st_q := [.int (i32 (r4))]) rfl (jl_iloadn g10) ?_
  refine jx_ar (pc_q := 8) (st_q := [.int (i32 (-1)), .int (i32 (r4))]) rfl rfl rfl rfl ?_
  refine jx_icmp_ne (pc_q := 11) (tg := 13) rfl rfl rfl (by omega) (by omega) (by decide) (by decide) (fun h11 => ?_) (fun h11 => ?_)
  · have _q := h11
    refine jx_ld (pc_q := 14) (l_q := L6) (st_q := [.int (i32 (r4))]) rfl (jl_iloadn g10) ?_
    refine jx_ar (pc_q := 15) (st_q := [.int (i32 (1)), .int (i32 (r4))]) rfl rfl rfl rfl ?_
    refine jx_shr (pc_q := 16) rfl rfl ?_
    obtain ⟨z12, ez12⟩ : ∃ q, q = (i32 (r4) >>> (i32 (1) &&& 31)).toInt := ⟨_, rfl⟩
    rw [← ez12]
    have bz12 : (-2147483648 : Int) ≤ z12 ∧ z12 ≤ 2147483647 := ez12 ▸ i32_rg _
    clear ez12
    refine jx_ld (pc_q := 18) (l_q := jSto1 L6 4 (.int (i32 (z12)))) (st_q := []) rfl rfl ?_
    obtain ⟨L13, eL13⟩ : ∃ q : jL, q = jSto1 L6 4 (.int (i32 (z12))) := ⟨_, rfl⟩
    rw [← eL13]
    have g14 : jGet L13 0 = some (rv (me)) := eL13 ▸ jg_nr (by decide) g7
    have g15 : jGet L13 1 = some (.int (i32 (a0))) := eL13 ▸ jg_ne (by decide) g8 rfl
    have g16 : jGet L13 2 = some (.int (i32 (a1))) := eL13 ▸ jg_ne (by decide) g9 rfl
    have g17 : jGet L13 3 = some (.int (i32 (r4))) := eL13 ▸ jg_ne (by decide) g10 rfl
    have g18 : jGet L13 4 = some (.int (i32 (z12))) := eL13 ▸ jg_eq
    clear eL13
    refine jx_ld (pc_q := 19) (l_q := L13) (st_q := [rv (me)]) rfl (jl_rvn g14) ?_
    refine jx_ld (pc_q := 21) (l_q := L13) (st_q := [.int (i32 (z12)), rv (me)]) rfl (jl_iload g18) ?_
    refine jx_ar (pc_q := 22) (st_q := [.int (i32 (3)), .int (i32 (z12)), rv (me)]) rfl rfl rfl rfl ?_
    refine jx_sub (pc_q := 23) rfl rfl ?_
    obtain ⟨z19, ez19⟩ : ∃ q, q = (i32 ((z12 - 3))).toInt := ⟨_, rfl⟩
    have bz19 : (-2147483648 : Int) ≤ z19 ∧ z19 ≤ 2147483647 := ez19 ▸ i32_rg _
    rw [show i32 ((z12 - 3)) = i32 z19 by rw [ez19, i32_of]]
    clear ez19
    refine cx_vi (c := 2) (a := me) (st := []) (as := [.int (i32 (z19))]) rfl rfl rfl o_me t_me (by decide) rfl ⟨rfl, rfl, (Nat.le_of_ble_eq_true rfl)⟩ rfl (k_LCore_peek (dd := d) (R := R) (m := m) (tg := tg) (ln := ln) (F := F) (me := me) (a0 := z19) (hd := by omega) (hC := hC) (o_me := o_me) (t_me := t_me) (h_a0 := by omega)) (fun o V_q hq => ?_)
    obtain ⟨r20, rfl, rfl, b21, -⟩ := hq
    refine Or.inr (Or.inl ⟨_, rfl, ?_⟩)
    refine cx_st (st := []) (as := [.int (i32 (r20))]) rfl rfl rfl ⟨rfl, (Nat.le_of_ble_eq_true rfl)⟩ rfl (k_LCore_isAlt (dd := d) (R := R) (m := m) (tg := tg) (ln := ln) (F := F) (a0 := r20) (hd := by omega) (hC := hC) (h_a0 := by omega)) (fun o V_q hq => ?_)
    obtain ⟨r22, rfl, rfl, b23, -⟩ := hq
    refine Or.inr (Or.inl ⟨_, rfl, ?_⟩)
    refine jx_if_eq (pc_q := 32) (tg := 39) rfl rfl rfl (by omega) (by omega) (fun h24 => ?_) (fun h24 => ?_)
    · have _q := h24
      refine jx_ld (pc_q := 40) (l_q := L13) (st_q := [rv (me)]) rfl (jl_rvn g14) ?_
      refine jx_ld (pc_q := 41) (l_q := L13) (st_q := [rv (me), rv (me)]) rfl (jl_rvn g14) ?_
      refine jx_ld (pc_q := 43) (l_q := L13) (st_q := [.int (i32 (z12)), rv (me), rv (me)]) rfl (jl_iload g18) ?_
      refine jx_ar (pc_q := 44) (st_q := [.int (i32 (2)), .int (i32 (z12)), rv (me), rv (me)]) rfl rfl rfl rfl ?_
      refine jx_sub (pc_q := 45) rfl rfl ?_
      obtain ⟨z25, ez25⟩ : ∃ q, q = (i32 ((z12 - 2))).toInt := ⟨_, rfl⟩
      have bz25 : (-2147483648 : Int) ≤ z25 ∧ z25 ≤ 2147483647 := ez25 ▸ i32_rg _
      rw [show i32 ((z12 - 2)) = i32 z25 by rw [ez25, i32_of]]
      clear ez25
      refine cx_vi (c := 2) (a := me) (st := [rv (me)]) (as := [.int (i32 (z25))]) rfl rfl rfl o_me t_me (by decide) rfl ⟨rfl, rfl, (by rw [jS_r, jS_0]; exact Nat.le_of_ble_eq_true rfl)⟩ rfl (k_LCore_peek (dd := d) (R := R) (m := m) (tg := tg) (ln := ln) (F := F) (me := me) (a0 := z25) (hd := by omega) (hC := hC) (o_me := o_me) (t_me := t_me) (h_a0 := by omega)) (fun o V_q hq => ?_)
      obtain ⟨r26, rfl, rfl, b27, -⟩ := hq
      refine Or.inr (Or.inl ⟨_, rfl, ?_⟩)
      refine jx_ld (pc_q := 49) (l_q := L13) (st_q := [.int (i32 (a1)), .int (i32 (r26)), rv (me)]) rfl (jl_iloadn g16) ?_
      refine cx_vi (c := 2) (a := me) (st := []) (as := [.int (i32 (r26)), .int (i32 (a1))]) rfl rfl rfl o_me t_me (by decide) rfl ⟨rfl, rfl, (Nat.le_of_ble_eq_true rfl)⟩ rfl (k_LCore_poke (dd := d) (R := R) (m := m) (tg := tg) (ln := ln) (F := F) (me := me) (a0 := r26) (a1 := a1) (hd := by omega) (hC := hC) (o_me := o_me) (t_me := t_me) (h_a0 := by omega) (h_a1 := by omega)) (fun o V_q hq => ?_)
      obtain ⟨F28, rfl, rfl, hC29, hM30, -⟩ := hq
      have hM31 : Fq 0 [(3, 16), (3, 17), (21, -5)] m tg F F28 := Fq_t (ln := ln) (ln1 := ln) hM0 Ex_r hM30 (by decide) (Or.inl rfl)
      refine Or.inl ⟨rfl, ?_⟩
      refine jx_ld (pc_q := 53) (l_q := L13) (st_q := [rv (me)]) rfl (jl_rvn g14) ?_
      refine jx_ld (pc_q := 54) (l_q := L13) (st_q := [.int (i32 (a0)), rv (me)]) rfl (jl_iloadn g15) ?_
      refine cx_vi (c := 2) (a := me) (st := []) (as := [.int (i32 (a0))]) rfl rfl rfl o_me t_me (by decide) rfl ⟨rfl, rfl, (Nat.le_of_ble_eq_true rfl)⟩ rfl (k_LCore_release (dd := d) (R := R) (m := m) (tg := tg) (ln := ln) (F := F28) (me := me) (a0 := a0) (hd := by omega) (hC := hC29) (o_me := o_me) (t_me := t_me) (h_a0 := by omega)) (fun o V_q hq => ?_)
      obtain ⟨F32, rfl, rfl, hC33, hM34, -⟩ := hq
      have hM35 : Fq 0 [(3, 16), (3, 17), (21, -5)] m tg F F32 := Fq_t (ln := ln) (ln1 := ln) hM31 Ex_r hM34 (by decide) (Or.inl rfl)
      refine Or.inl ⟨rfl, ?_⟩
      refine jx_ar (pc_q := 58) (st_q := [.int (i32 (1))]) rfl rfl rfl rfl ?_
      refine jx_rt (v := some (.int (i32 (1)))) rfl rfl rfl rfl rfl (by first | rfl | exact jRet_b (by omega)) ?_
      exact ⟨F32, (1), rfl, rfl, hC33, hM35, by omega, trivial⟩
    · have _q := h24
      refine jx_ld (pc_q := 33) (l_q := L13) (st_q := [rv (me)]) rfl (jl_rvn g14) ?_
      refine jx_ld (pc_q := 34) (l_q := L13) (st_q := [.int (i32 (r4)), rv (me)]) rfl (jl_iloadn g17) ?_
      refine cx_vi (c := 2) (a := me) (st := []) (as := [.int (i32 (r4))]) rfl rfl rfl o_me t_me (by decide) rfl ⟨rfl, rfl, (Nat.le_of_ble_eq_true rfl)⟩ rfl (k_LCore_alert (dd := d) (R := R) (m := m) (tg := tg) (ln := ln) (F := F) (me := me) (a0 := r4) (hd := by omega) (hC := hC) (o_me := o_me) (t_me := t_me) (h_a0 := by omega)) (fun o V_q hq => ?_)
      obtain ⟨F36, rfl, rfl, hC37, hM38, -⟩ := hq
      have hM39 : Fq 0 [(3, 16), (3, 17), (21, -5)] m tg F F36 := Fq_t (ln := ln) (ln1 := ln) hM0 Ex_r hM38 (by decide) (Or.inl rfl)
      refine Or.inl ⟨rfl, ?_⟩
      refine jx_ar (pc_q := 38) (st_q := [.int (i32 (0))]) rfl rfl rfl rfl ?_
      refine jx_rt (v := some (.int (i32 (0)))) rfl rfl rfl rfl rfl (by first | rfl | exact jRet_b (by omega)) ?_
      exact ⟨F36, (0), rfl, rfl, hC37, hM39, by omega, trivial⟩
  · have _q := h11
    refine jx_ar (pc_q := 12) (st_q := [.int (i32 (0))]) rfl rfl rfl rfl ?_
    refine jx_rt (v := some (.int (i32 (0)))) rfl rfl rfl rfl rfl (by first | rfl | exact jRet_b (by omega)) ?_
    exact ⟨F, (0), rfl, rfl, hC, hM0, by omega, trivial⟩
set_option maxRecDepth 20000 in
set_option maxHeartbeats 4000000 in
theorem k_LCore_state {X : jX} {dd : Nat} {R : Nat → jC} {m : Nat} {tg ln : Int → Int} {F : Int → Int → Int} {me a0 : Int} (hd : 2 ≤ dd) (hC : HC 0 m tg ln F) (o_me : own m me) (t_me : tg me = 3) (h_a0 : (-2147483648 : Int) ≤ a0 ∧ a0 ≤ 2147483647) : wk X dd 84 [rv me, .int (i32 a0)] (cV R m tg ln F) (fun o V_q => ∃ (r : Int), V_q = cV R m tg ln F ∧ o = .inl (some (.int (i32 r))) ∧ (-2147483648 ≤ r ∧ r ≤ 2147483647) ∧ True) := by
  obtain ⟨d, rfl⟩ : ∃ d, dd = d + 1 := ⟨dd - 1, by omega⟩
  refine wk_of (e := jm84) rfl (by rw [jS_r, jS_i, jS_0]; exact Nat.le_of_ble_eq_true rfl) ?_
  rw [la_r, la_i, la_0]
  show wj X d jm84 (0, [(0, rv (me)), (1, .int (i32 (a0)))], [], cV R m tg ln F) _
  obtain ⟨L0, eL0⟩ : ∃ q : jL, q = [(0, rv (me)), (1, .int (i32 (a0)))] := ⟨_, rfl⟩
  rw [← eL0]
  have g1 : jGet L0 0 = some (rv (me)) := eL0 ▸ (rfl : jGet [(0, rv (me)), (1, .int (i32 (a0)))] 0 = some (rv (me)))
  have g2 : jGet L0 1 = some (.int (i32 (a0))) := eL0 ▸ (rfl : jGet [(0, rv (me)), (1, .int (i32 (a0)))] 1 = some (.int (i32 (a0))))
  clear eL0
  refine jx_ld (pc_q := 1) (l_q := L0) (st_q := [.int (i32 (a0))]) rfl (jl_iloadn g2) ?_
  by_cases h3 : a0 = 6
  · refine jx_swe (tg := 36) h3 rfl rfl rfl rfl ?_
    refine jx_ld (pc_q := 37) (l_q := L0) (st_q := [rv (me)]) rfl (jl_rvn g1) ?_
    refine cx_gi (pc_q := 40) (c := 2) (q := 11) (v := F (me) (11 : Int)) rfl rfl (by decide) (by decide) (Or.inr rfl) rfl o_me t_me rfl ?_
    have b4 : (0 : Int) ≤ F (me) (11 : Int) ∧ F (me) (11 : Int) ≤ 1 := by have z := HC_i (c := 2) (q := 11) hC o_me t_me (by decide) rfl; rw [show F (me) ((11 : Nat) : Int) = F (me) (11 : Int) from rfl] at z; exact z
    refine jx_if_eq (pc_q := 43) (tg := 50) rfl rfl rfl (by omega) (by omega) (fun h5 => ?_) (fun h5 => ?_)
    · have _q := h5
      refine jx_ar (pc_q := 51) (st_q := [.int (i32 (-1))]) rfl rfl rfl rfl ?_
      refine jx_rt (v := some (.int (i32 (-1)))) rfl rfl rfl rfl rfl rfl ?_
      exact ⟨(-1), rfl, rfl, by omega, trivial⟩
    · have _q := h5
      refine jx_ld (pc_q := 44) (l_q := L0) (st_q := [rv (me)]) rfl (jl_rvn g1) ?_
      refine cx_vi (c := 2) (a := me) (st := []) (as := []) rfl rfl rfl o_me t_me (by decide) rfl ⟨rfl, rfl, (Nat.le_of_ble_eq_true rfl)⟩ rfl (k_LCore_self (dd := d) (R := R) (m := m) (tg := tg) (ln := ln) (F := F) (me := me) (hd := by omega) (hC := hC) (o_me := o_me) (t_me := t_me)) (fun o V_q hq => ?_)
      obtain ⟨r6, rfl, rfl, b7, -⟩ := hq
      refine Or.inr (Or.inl ⟨_, rfl, ?_⟩)
      refine jx_go (tg := 51) rfl rfl ?_
      refine jx_rt (v := some (.int (i32 (r6)))) rfl rfl rfl rfl rfl rfl ?_
      exact ⟨(r6), rfl, rfl, by omega, trivial⟩
  by_cases h8 : a0 = 7
  · refine jx_swe (tg := 52) h8 rfl rfl rfl rfl ?_
    refine jx_ld (pc_q := 53) (l_q := L0) (st_q := [rv (me)]) rfl (jl_rvn g1) ?_
    refine cx_gi (pc_q := 56) (c := 2) (q := 13) (v := F (me) (13 : Int)) rfl rfl (by decide) (by decide) (Or.inl rfl) rfl o_me t_me rfl ?_
    have b9 : (-2147483648 : Int) ≤ F (me) (13 : Int) ∧ F (me) (13 : Int) ≤ 2147483647 := by have z := HC_i (c := 2) (q := 13) hC o_me t_me (by decide) rfl; rw [show F (me) ((13 : Nat) : Int) = F (me) (13 : Int) from rfl] at z; exact z
    refine jx_rt (v := some (.int (i32 (F (me) (13 : Int))))) rfl rfl rfl rfl rfl rfl ?_
    exact ⟨(F (me) (13 : Int)), rfl, rfl, by omega, trivial⟩
  by_cases h10 : a0 = 8
  · refine jx_swe (tg := 57) h10 rfl rfl rfl rfl ?_
    refine jx_ld (pc_q := 58) (l_q := L0) (st_q := [rv (me)]) rfl (jl_rvn g1) ?_
    refine cx_gi (pc_q := 61) (c := 2) (q := 14) (v := F (me) (14 : Int)) rfl rfl (by decide) (by decide) (Or.inl rfl) rfl o_me t_me rfl ?_
    have b11 : (-2147483648 : Int) ≤ F (me) (14 : Int) ∧ F (me) (14 : Int) ≤ 2147483647 := by have z := HC_i (c := 2) (q := 14) hC o_me t_me (by decide) rfl; rw [show F (me) ((14 : Nat) : Int) = F (me) (14 : Int) from rfl] at z; exact z
    refine jx_rt (v := some (.int (i32 (F (me) (14 : Int))))) rfl rfl rfl rfl rfl rfl ?_
    exact ⟨(F (me) (14 : Int)), rfl, rfl, by omega, trivial⟩
  by_cases h12 : a0 = 9
  · refine jx_swe (tg := 62) h12 rfl rfl rfl rfl ?_
    refine jx_ld (pc_q := 63) (l_q := L0) (st_q := [rv (me)]) rfl (jl_rvn g1) ?_
    refine cx_gi (pc_q := 66) (c := 2) (q := 17) (v := F (me) (17 : Int)) rfl rfl (by decide) (by decide) (Or.inl rfl) rfl o_me t_me rfl ?_
    have b13 : (-2147483648 : Int) ≤ F (me) (17 : Int) ∧ F (me) (17 : Int) ≤ 2147483647 := by have z := HC_i (c := 2) (q := 17) hC o_me t_me (by decide) rfl; rw [show F (me) ((17 : Nat) : Int) = F (me) (17 : Int) from rfl] at z; exact z
    refine jx_rt (v := some (.int (i32 (F (me) (17 : Int))))) rfl rfl rfl rfl rfl rfl ?_
    exact ⟨(F (me) (17 : Int)), rfl, rfl, by omega, trivial⟩
  by_cases h14 : a0 = 10
  · refine jx_swe (tg := 67) h14 rfl rfl rfl rfl ?_
    refine jx_ld (pc_q := 68) (l_q := L0) (st_q := [rv (me)]) rfl (jl_rvn g1) ?_
    refine cx_gi (pc_q := 71) (c := 2) (q := 16) (v := F (me) (16 : Int)) rfl rfl (by decide) (by decide) (Or.inl rfl) rfl o_me t_me rfl ?_
    have b15 : (-2147483648 : Int) ≤ F (me) (16 : Int) ∧ F (me) (16 : Int) ≤ 2147483647 := by have z := HC_i (c := 2) (q := 16) hC o_me t_me (by decide) rfl; rw [show F (me) ((16 : Nat) : Int) = F (me) (16 : Int) from rfl] at z; exact z
    have x16 := (hC.2.2.2.2.2 (me) o_me (own_z o_me)).2 t_me
    refine jx_ld (pc_q := 72) (l_q := L0) (st_q := [rv (me), .int (i32 (F (me) (16 : Int)))]) rfl (jl_rvn g1) ?_
    refine cx_gi (pc_q := 75) (c := 2) (q := 17) (v := F (me) (17 : Int)) rfl rfl (by decide) (by decide) (Or.inl rfl) rfl o_me t_me rfl ?_
    have b17 : (-2147483648 : Int) ≤ F (me) (17 : Int) ∧ F (me) (17 : Int) ≤ 2147483647 := by have z := HC_i (c := 2) (q := 17) hC o_me t_me (by decide) rfl; rw [show F (me) ((17 : Nat) : Int) = F (me) (17 : Int) from rfl] at z; exact z
    refine jx_sub (pc_q := 76) rfl rfl ?_
    obtain ⟨z18, ez18⟩ : ∃ q, q = (i32 ((F (me) (16 : Int) - F (me) (17 : Int)))).toInt := ⟨_, rfl⟩
    have bz18 : (-2147483648 : Int) ≤ z18 ∧ z18 ≤ 2147483647 := ez18 ▸ i32_rg _
    rw [show i32 ((F (me) (16 : Int) - F (me) (17 : Int))) = i32 z18 by rw [ez18, i32_of]]
    clear ez18
    refine jx_rt (v := some (.int (i32 (z18)))) rfl rfl rfl rfl rfl rfl ?_
    exact ⟨(z18), rfl, rfl, by omega, trivial⟩
  refine jx_swt (tg := 77) (by omega) (by omega) rfl (by omega) rfl ?_
  refine jx_ld (pc_q := 78) (l_q := L0) (st_q := [rv (me)]) rfl (jl_rvn g1) ?_
  refine cx_gi (pc_q := 81) (c := 2) (q := 18) (v := F (me) (18 : Int)) rfl rfl (by decide) (by decide) (Or.inl rfl) rfl o_me t_me rfl ?_
  have b19 : (-2147483648 : Int) ≤ F (me) (18 : Int) ∧ F (me) (18 : Int) ≤ 2147483647 := by have z := HC_i (c := 2) (q := 18) hC o_me t_me (by decide) rfl; rw [show F (me) ((18 : Nat) : Int) = F (me) (18 : Int) from rfl] at z; exact z
  refine jx_rt (v := some (.int (i32 (F (me) (18 : Int))))) rfl rfl rfl rfl rfl rfl ?_
  exact ⟨(F (me) (18 : Int)), rfl, rfl, by omega, trivial⟩
set_option maxRecDepth 20000 in
set_option maxHeartbeats 4000000 in
theorem k_LCore_decode_at_9 {X : jX} {d : Nat} {R : Nat → jC} {m : Nat} {tg ln : Int → Int} {F : Int → Int → Int} {me k what : Int} (hd : 2 ≤ d + 1) (hC : HC 0 m tg ln F) (o_me : own m me) (t_me : tg me = 3) (h_k : (-2147483648 : Int) ≤ k ∧ k ≤ 2147483647) (h_what : (-2147483648 : Int) ≤ what ∧ what ≤ 2147483647) : ∀ (mm : Nat) (L : jL) (op aT : Int), (ln (F me (1 : Int)) - aT).toNat = mm → jGet L 0 = some (rv (me)) → jGet L 1 = some (.int (i32 (k))) → jGet L 2 = some (.int (i32 (what))) → jGet L 3 = some (.int (i32 op)) → jGet L 4 = some (.int (i32 aT)) → ((-2147483648 : Int) ≤ op ∧ op ≤ 2147483647) → ((-2147483648 : Int) ≤ aT ∧ aT ≤ 2147483647) → (0 ≤ aT) → wj X d jm85 (9, L, [], cV R m tg ln F) (fun o V_q => ∃ (r : Int), V_q = cV R m tg ln F ∧ o = .inl (some (.int (i32 r))) ∧ (-2147483648 ≤ r ∧ r ≤ 2147483647) ∧ True) := by
  intro mm
  induction mm using Nat.strongRecOn with
  | ind mm ih =>
    intro L op aT hmm gL_0 gL_1 gL_2 gL_3 gL_4 rx_op rx_aT iv_0
    refine jx_ld (pc_q := 11) (l_q := L) (st_q := [.int (i32 (aT))]) rfl (jl_iload gL_4) ?_
    refine jx_ld (pc_q := 12) (l_q := L) (st_q := [rv (me), .int (i32 (aT))]) rfl (jl_rvn gL_0) ?_
    refine cx_gr (pc_q := 15) (c := 2) (q := 1) (v := F (me) (1 : Int)) rfl rfl (by decide) (by decide) rfl rfl o_me t_me rfl ?_
    have y1 : own m (F (me) (1 : Int)) ∧ tg (F (me) (1 : Int)) = 20 ∧ ((0 : Int) ≠ 0 → ln (F (me) (1 : Int)) = 0) := by have z := HC_n (c := 2) (q := 1) hC o_me t_me (own_z o_me) (by decide) rfl; rw [show F (me) ((1 : Nat) : Int) = F (me) (1 : Int) from rfl] at z; exact ⟨z.1, z.2.1, z.2.2.1⟩
    have b2 := HC_l hC y1.1 y1.2.1 (by decide)
    refine cx_len (pc_q := 16) rfl rfl y1.1 (by rw [y1.2.1]; decide) (by omega) ?_
    refine jx_icmp_ge (pc_q := 19) (tg := 106) rfl rfl rfl (by omega) (by omega) (by omega) (by omega) (fun h3 => ?_) (fun h3 => ?_)
    · have _q := h3
      refine jx_ar (pc_q := 107) (st_q := [.int (i32 (-1))]) rfl rfl rfl rfl ?_
      refine jx_rt (v := some (.int (i32 (-1)))) rfl rfl rfl rfl rfl rfl ?_
      exact ⟨(-1), rfl, rfl, by omega, trivial⟩
    · have _q := h3
      refine jx_ld (pc_q := 20) (l_q := L) (st_q := [rv (me)]) rfl (jl_rvn gL_0) ?_
      refine cx_gr (pc_q := 23) (c := 2) (q := 1) (v := F (me) (1 : Int)) rfl rfl (by decide) (by decide) rfl rfl o_me t_me rfl ?_
      refine jx_ld (pc_q := 25) (l_q := L) (st_q := [.int (i32 (aT)), rv (F (me) (1 : Int))]) rfl (jl_iload gL_4) ?_
      refine cx_bal (pc_q := 26) (z := aT) rfl rfl y1.1 (Or.inl y1.2.1) (by omega) (by omega) (by omega) ?_
      have b4 : (-2147483648 : Int) ≤ F (F (me) (1 : Int)) (aT) ∧ F (F (me) (1 : Int)) (aT) ≤ 2147483647 := by have z := HC_ei (j := aT) hC y1.1 (by rw [y1.2.1]; decide) (by omega); exact z
      refine jx_ar (pc_q := 27) (st_q := [.int (i32 (4)), .int (i32 (F (F (me) (1 : Int)) (aT)))]) rfl rfl rfl rfl ?_
      refine jx_shr (pc_q := 28) rfl rfl ?_
      obtain ⟨z5, ez5⟩ : ∃ q, q = (i32 (F (F (me) (1 : Int)) (aT)) >>> (i32 (4) &&& 31)).toInt := ⟨_, rfl⟩
      rw [← ez5]
      have bz5 : (-2147483648 : Int) ≤ z5 ∧ z5 ≤ 2147483647 := ez5 ▸ i32_rg _
      clear ez5
      refine jx_ar (pc_q := 30) (st_q := [.int (i32 (15)), .int (i32 (z5))]) rfl rfl rfl rfl ?_
      refine jx_and (pc_q := 31) rfl rfl ?_
      obtain ⟨z6, ez6⟩ : ∃ q, q = (i32 (z5) &&& i32 (15)).toInt := ⟨_, rfl⟩
      rw [← ez6]
      have bz6 : (-2147483648 : Int) ≤ z6 ∧ z6 ≤ 2147483647 := ez6 ▸ i32_rg _
      have cz6 : 0 ≤ z6 ∧ z6 ≤ 15 := ez6 ▸ and_le (by decide) (by decide)
      clear ez6
      refine jx_ld (pc_q := 33) (l_q := jSto1 L 5 (.int (i32 (z6)))) (st_q := []) rfl rfl ?_
      obtain ⟨L7, eL7⟩ : ∃ q : jL, q = jSto1 L 5 (.int (i32 (z6))) := ⟨_, rfl⟩
      rw [← eL7]
      have g8 : jGet L7 0 = some (rv (me)) := eL7 ▸ jg_nr (by decide) gL_0
      have g9 : jGet L7 1 = some (.int (i32 (k))) := eL7 ▸ jg_ne (by decide) gL_1 rfl
      have g10 : jGet L7 2 = some (.int (i32 (what))) := eL7 ▸ jg_ne (by decide) gL_2 rfl
      have g11 : jGet L7 3 = some (.int (i32 (op))) := eL7 ▸ jg_ne (by decide) gL_3 rfl
      have g12 : jGet L7 4 = some (.int (i32 (aT))) := eL7 ▸ jg_ne (by decide) gL_4 rfl
      have g13 : jGet L7 5 = some (.int (i32 (z6))) := eL7 ▸ jg_eq
      clear eL7
      refine jx_ld (pc_q := 34) (l_q := L7) (st_q := [.int (i32 (op))]) rfl (jl_iloadn g11) ?_
      refine jx_ld (pc_q := 35) (l_q := L7) (st_q := [rv (me), .int (i32 (op))]) rfl (jl_rvn g8) ?_
      refine cx_gr (pc_q := 38) (c := 2) (q := 1) (v := F (me) (1 : Int)) rfl rfl (by decide) (by decide) rfl rfl o_me t_me rfl ?_
      refine jx_ld (pc_q := 40) (l_q := L7) (st_q := [.int (i32 (aT)), rv (F (me) (1 : Int)), .int (i32 (op))]) rfl (jl_iload g12) ?_
      refine cx_bal (pc_q := 41) (z := aT) rfl rfl y1.1 (Or.inl y1.2.1) (by omega) (by omega) (by omega) ?_
      refine jx_ar (pc_q := 43) (st_q := [.int (i32 (15)), .int (i32 (F (F (me) (1 : Int)) (aT))), .int (i32 (op))]) rfl rfl rfl rfl ?_
      refine jx_and (pc_q := 44) rfl rfl ?_
      obtain ⟨z14, ez14⟩ : ∃ q, q = (i32 (F (F (me) (1 : Int)) (aT)) &&& i32 (15)).toInt := ⟨_, rfl⟩
      rw [← ez14]
      have bz14 : (-2147483648 : Int) ≤ z14 ∧ z14 ≤ 2147483647 := ez14 ▸ i32_rg _
      have cz14 : 0 ≤ z14 ∧ z14 ≤ 15 := ez14 ▸ and_le (by decide) (by decide)
      clear ez14
      refine jx_or (pc_q := 45) rfl rfl ?_
      obtain ⟨z15, ez15⟩ : ∃ q, q = (i32 (op) ||| i32 (z14)).toInt := ⟨_, rfl⟩
      rw [← ez15]
      have bz15 : (-2147483648 : Int) ≤ z15 ∧ z15 ≤ 2147483647 := ez15 ▸ i32_rg _
      clear ez15
      refine jx_ld (pc_q := 46) (l_q := jSto1 L7 3 (.int (i32 (z15)))) (st_q := []) rfl rfl ?_
      obtain ⟨L16, eL16⟩ : ∃ q : jL, q = jSto1 L7 3 (.int (i32 (z15))) := ⟨_, rfl⟩
      rw [← eL16]
      have g17 : jGet L16 0 = some (rv (me)) := eL16 ▸ jg_nr (by decide) g8
      have g18 : jGet L16 1 = some (.int (i32 (k))) := eL16 ▸ jg_ne (by decide) g9 rfl
      have g19 : jGet L16 2 = some (.int (i32 (what))) := eL16 ▸ jg_ne (by decide) g10 rfl
      have g20 : jGet L16 4 = some (.int (i32 (aT))) := eL16 ▸ jg_ne (by decide) g12 rfl
      have g21 : jGet L16 5 = some (.int (i32 (z6))) := eL16 ▸ jg_ne (by decide) g13 rfl
      have g22 : jGet L16 3 = some (.int (i32 (z15))) := eL16 ▸ jg_eq
      clear eL16
      refine jx_ld (pc_q := 48) (l_q := L16) (st_q := [.int (i32 (z6))]) rfl (jl_iload g21) ?_
      refine jx_ar (pc_q := 49) (st_q := [.int (i32 (2)), .int (i32 (z6))]) rfl rfl rfl rfl ?_
      refine jx_icmp_ne (pc_q := 52) (tg := 59) rfl rfl rfl (by omega) (by omega) (by decide) (by decide) (fun h23 => ?_) (fun h23 => ?_)
      · have _q := h23
        refine jx_ld (pc_q := 61) (l_q := L16) (st_q := [.int (i32 (z6))]) rfl (jl_iload g21) ?_
        refine jx_ar (pc_q := 63) (st_q := [.int (i32 (6)), .int (i32 (z6))]) rfl rfl rfl rfl ?_
        refine jx_icmp_ne (pc_q := 66) (tg := 75) rfl rfl rfl (by omega) (by omega) (by decide) (by decide) (fun h24 => ?_) (fun h24 => ?_)
        · have _q := h24
          refine jx_ld (pc_q := 76) (l_q := L16) (st_q := [.int (i32 (what))]) rfl (jl_iloadn g19) ?_
          refine jx_if_ne (pc_q := 79) (tg := 84) rfl rfl rfl (by omega) (by omega) (fun h25 => ?_) (fun h25 => ?_)
          · have _q := h25
            refine jx_ld (pc_q := 85) (l_q := L16) (st_q := [.int (i32 (what))]) rfl (jl_iloadn g19) ?_
            refine jx_ar (pc_q := 86) (st_q := [.int (i32 (1)), .int (i32 (what))]) rfl rfl rfl rfl ?_
            refine jx_icmp_ne (pc_q := 89) (tg := 93) rfl rfl rfl (by omega) (by omega) (by decide) (by decide) (fun h26 => ?_) (fun h26 => ?_)
            · have _q := h26
              refine jx_ld (pc_q := 95) (l_q := L16) (st_q := [.int (i32 (aT))]) rfl (jl_iload g20) ?_
              refine jx_ld (pc_q := 96) (l_q := L16) (st_q := [.int (i32 (k)), .int (i32 (aT))]) rfl (jl_iloadn g18) ?_
              refine jx_sub (pc_q := 97) rfl rfl ?_
              obtain ⟨z27, ez27⟩ : ∃ q, q = (i32 ((aT - k))).toInt := ⟨_, rfl⟩
              have bz27 : (-2147483648 : Int) ≤ z27 ∧ z27 ≤ 2147483647 := ez27 ▸ i32_rg _
              rw [show i32 ((aT - k)) = i32 z27 by rw [ez27, i32_of]]
              clear ez27
              refine jx_ar (pc_q := 98) (st_q := [.int (i32 (1)), .int (i32 (z27))]) rfl rfl rfl rfl ?_
              refine jx_add (pc_q := 99) rfl rfl ?_
              obtain ⟨z28, ez28⟩ : ∃ q, q = (i32 ((z27 + 1))).toInt := ⟨_, rfl⟩
              have bz28 : (-2147483648 : Int) ≤ z28 ∧ z28 ≤ 2147483647 := ez28 ▸ i32_rg _
              rw [show i32 ((z27 + 1)) = i32 z28 by rw [ez28, i32_of]]
              clear ez28
              refine jx_rt (v := some (.int (i32 (z28)))) rfl rfl rfl rfl rfl rfl ?_
              exact ⟨(z28), rfl, rfl, by omega, trivial⟩
            · have _q := h26
              refine jx_ld (pc_q := 90) (l_q := L16) (st_q := [.int (i32 (z15))]) rfl (jl_iloadn g22) ?_
              refine jx_go (tg := 99) rfl rfl ?_
              refine jx_rt (v := some (.int (i32 (z15)))) rfl rfl rfl rfl rfl rfl ?_
              exact ⟨(z15), rfl, rfl, by omega, trivial⟩
          · have _q := h25
            refine jx_ld (pc_q := 81) (l_q := L16) (st_q := [.int (i32 (z6))]) rfl (jl_iload g21) ?_
            refine jx_go (tg := 99) rfl rfl ?_
            refine jx_rt (v := some (.int (i32 (z6)))) rfl rfl rfl rfl rfl rfl ?_
            exact ⟨(z6), rfl, rfl, by omega, trivial⟩
        · have _q := h24
          refine jx_ld (pc_q := 67) (l_q := L16) (st_q := [.int (i32 (z15))]) rfl (jl_iloadn g22) ?_
          refine jx_ar (pc_q := 68) (st_q := [.int (i32 (-1)), .int (i32 (z15))]) rfl rfl rfl rfl ?_
          refine jx_xor (pc_q := 69) rfl rfl ?_
          obtain ⟨z29, ez29⟩ : ∃ q, q = (i32 (z15) ^^^ i32 (-1)).toInt := ⟨_, rfl⟩
          rw [← ez29]
          have bz29 : (-2147483648 : Int) ≤ z29 ∧ z29 ≤ 2147483647 := ez29 ▸ i32_rg _
          clear ez29
          refine jx_ar (pc_q := 70) (st_q := [.int (i32 (4)), .int (i32 (z29))]) rfl rfl rfl rfl ?_
          refine jx_shl (pc_q := 71) rfl rfl ?_
          obtain ⟨z30, ez30⟩ : ∃ q, q = (i32 (z29) <<< (i32 (4) &&& 31)).toInt := ⟨_, rfl⟩
          rw [← ez30]
          have bz30 : (-2147483648 : Int) ≤ z30 ∧ z30 ≤ 2147483647 := ez30 ▸ i32_rg _
          clear ez30
          refine jx_ld (pc_q := 72) (l_q := jSto1 L16 3 (.int (i32 (z30)))) (st_q := []) rfl rfl ?_
          obtain ⟨L31, eL31⟩ : ∃ q : jL, q = jSto1 L16 3 (.int (i32 (z30))) := ⟨_, rfl⟩
          rw [← eL31]
          have g32 : jGet L31 0 = some (rv (me)) := eL31 ▸ jg_nr (by decide) g17
          have g33 : jGet L31 1 = some (.int (i32 (k))) := eL31 ▸ jg_ne (by decide) g18 rfl
          have g34 : jGet L31 2 = some (.int (i32 (what))) := eL31 ▸ jg_ne (by decide) g19 rfl
          have g35 : jGet L31 4 = some (.int (i32 (aT))) := eL31 ▸ jg_ne (by decide) g20 rfl
          have g36 : jGet L31 5 = some (.int (i32 (z6))) := eL31 ▸ jg_ne (by decide) g21 rfl
          have g37 : jGet L31 3 = some (.int (i32 (z30))) := eL31 ▸ jg_eq
          clear eL31
          refine jx_go (tg := 100) rfl rfl ?_
          refine jx_inc (pc_q := 103) (l_q := jSto1 L31 4 (.int (i32 (aT + (1))))) (x := aT) rfl g35 (by decide) rfl rfl ?_
          obtain ⟨L38, eL38⟩ : ∃ q : jL, q = jSto1 L31 4 (.int (i32 ((aT + (1))))) := ⟨_, rfl⟩
          rw [← eL38]
          have g39 : jGet L38 0 = some (rv (me)) := eL38 ▸ jg_nr (by decide) g32
          have g40 : jGet L38 1 = some (.int (i32 (k))) := eL38 ▸ jg_ne (by decide) g33 rfl
          have g41 : jGet L38 2 = some (.int (i32 (what))) := eL38 ▸ jg_ne (by decide) g34 rfl
          have g42 : jGet L38 5 = some (.int (i32 (z6))) := eL38 ▸ jg_ne (by decide) g36 rfl
          have g43 : jGet L38 3 = some (.int (i32 (z30))) := eL38 ▸ jg_ne (by decide) g37 rfl
          have g44 : jGet L38 4 = some (.int (i32 ((aT + (1))))) := eL38 ▸ jg_eq
          clear eL38
          refine jx_go (tg := 9) rfl rfl ?_
          exact ih _ (by omega) L38 (z30) ((aT + (1))) rfl g39 g40 g41 g43 g44 (by omega) (by omega) (by omega)
      · have _q := h23
        refine jx_ld (pc_q := 53) (l_q := L16) (st_q := [.int (i32 (z15))]) rfl (jl_iloadn g22) ?_
        refine jx_ar (pc_q := 54) (st_q := [.int (i32 (4)), .int (i32 (z15))]) rfl rfl rfl rfl ?_
        refine jx_shl (pc_q := 55) rfl rfl ?_
        obtain ⟨z45, ez45⟩ : ∃ q, q = (i32 (z15) <<< (i32 (4) &&& 31)).toInt := ⟨_, rfl⟩
        rw [← ez45]
        have bz45 : (-2147483648 : Int) ≤ z45 ∧ z45 ≤ 2147483647 := ez45 ▸ i32_rg _
        clear ez45
        refine jx_ld (pc_q := 56) (l_q := jSto1 L16 3 (.int (i32 (z45)))) (st_q := []) rfl rfl ?_
        obtain ⟨L46, eL46⟩ : ∃ q : jL, q = jSto1 L16 3 (.int (i32 (z45))) := ⟨_, rfl⟩
        rw [← eL46]
        have g47 : jGet L46 0 = some (rv (me)) := eL46 ▸ jg_nr (by decide) g17
        have g48 : jGet L46 1 = some (.int (i32 (k))) := eL46 ▸ jg_ne (by decide) g18 rfl
        have g49 : jGet L46 2 = some (.int (i32 (what))) := eL46 ▸ jg_ne (by decide) g19 rfl
        have g50 : jGet L46 4 = some (.int (i32 (aT))) := eL46 ▸ jg_ne (by decide) g20 rfl
        have g51 : jGet L46 5 = some (.int (i32 (z6))) := eL46 ▸ jg_ne (by decide) g21 rfl
        have g52 : jGet L46 3 = some (.int (i32 (z45))) := eL46 ▸ jg_eq
        clear eL46
        refine jx_go (tg := 100) rfl rfl ?_
        refine jx_inc (pc_q := 103) (l_q := jSto1 L46 4 (.int (i32 (aT + (1))))) (x := aT) rfl g50 (by decide) rfl rfl ?_
        obtain ⟨L53, eL53⟩ : ∃ q : jL, q = jSto1 L46 4 (.int (i32 ((aT + (1))))) := ⟨_, rfl⟩
        rw [← eL53]
        have g54 : jGet L53 0 = some (rv (me)) := eL53 ▸ jg_nr (by decide) g47
        have g55 : jGet L53 1 = some (.int (i32 (k))) := eL53 ▸ jg_ne (by decide) g48 rfl
        have g56 : jGet L53 2 = some (.int (i32 (what))) := eL53 ▸ jg_ne (by decide) g49 rfl
        have g57 : jGet L53 5 = some (.int (i32 (z6))) := eL53 ▸ jg_ne (by decide) g51 rfl
        have g58 : jGet L53 3 = some (.int (i32 (z45))) := eL53 ▸ jg_ne (by decide) g52 rfl
        have g59 : jGet L53 4 = some (.int (i32 ((aT + (1))))) := eL53 ▸ jg_eq
        clear eL53
        refine jx_go (tg := 9) rfl rfl ?_
        exact ih _ (by omega) L53 (z45) ((aT + (1))) rfl g54 g55 g56 g58 g59 (by omega) (by omega) (by omega)
set_option maxRecDepth 20000 in
set_option maxHeartbeats 4000000 in
theorem k_LCore_decode {X : jX} {dd : Nat} {R : Nat → jC} {m : Nat} {tg ln : Int → Int} {F : Int → Int → Int} {me k what : Int} (hd : 2 ≤ dd) (hC : HC 0 m tg ln F) (o_me : own m me) (t_me : tg me = 3) (h_k : (-2147483648 : Int) ≤ k ∧ k ≤ 2147483647) (h_what : (-2147483648 : Int) ≤ what ∧ what ≤ 2147483647) : wk X dd 85 [rv me, .int (i32 k), .int (i32 what)] (cV R m tg ln F) (fun o V_q => ∃ (r : Int), V_q = cV R m tg ln F ∧ o = .inl (some (.int (i32 r))) ∧ (-2147483648 ≤ r ∧ r ≤ 2147483647) ∧ True) := by
  obtain ⟨d, rfl⟩ : ∃ d, dd = d + 1 := ⟨dd - 1, by omega⟩
  refine wk_of (e := jm85) rfl (by rw [jS_r, jS_i, jS_i, jS_0]; exact Nat.le_of_ble_eq_true rfl) ?_
  rw [la_r, la_i, la_i, la_0]
  show wj X d jm85 (0, [(0, rv (me)), (1, .int (i32 (k))), (2, .int (i32 (what)))], [], cV R m tg ln F) _
  obtain ⟨L0, eL0⟩ : ∃ q : jL, q = [(0, rv (me)), (1, .int (i32 (k))), (2, .int (i32 (what)))] := ⟨_, rfl⟩
  rw [← eL0]
  have g60 : jGet L0 0 = some (rv (me)) := eL0 ▸ (rfl : jGet [(0, rv (me)), (1, .int (i32 (k))), (2, .int (i32 (what)))] 0 = some (rv (me)))
  have g61 : jGet L0 1 = some (.int (i32 (k))) := eL0 ▸ (rfl : jGet [(0, rv (me)), (1, .int (i32 (k))), (2, .int (i32 (what)))] 1 = some (.int (i32 (k))))
  have g62 : jGet L0 2 = some (.int (i32 (what))) := eL0 ▸ (rfl : jGet [(0, rv (me)), (1, .int (i32 (k))), (2, .int (i32 (what)))] 2 = some (.int (i32 (what))))
  clear eL0
  refine jx_ar (pc_q := 1) (st_q := [.int (i32 (0))]) rfl rfl rfl rfl ?_
  refine jx_ld (pc_q := 2) (l_q := jSto1 L0 3 (.int (i32 (0)))) (st_q := []) rfl rfl ?_
  obtain ⟨L63, eL63⟩ : ∃ q : jL, q = jSto1 L0 3 (.int (i32 (0))) := ⟨_, rfl⟩
  rw [← eL63]
  have g64 : jGet L63 0 = some (rv (me)) := eL63 ▸ jg_nr (by decide) g60
  have g65 : jGet L63 1 = some (.int (i32 (k))) := eL63 ▸ jg_ne (by decide) g61 rfl
  have g66 : jGet L63 2 = some (.int (i32 (what))) := eL63 ▸ jg_ne (by decide) g62 rfl
  have g67 : jGet L63 3 = some (.int (i32 (0))) := eL63 ▸ jg_eq
  clear eL63
  refine jx_ld (pc_q := 3) (l_q := L63) (st_q := [.int (i32 (k))]) rfl (jl_iloadn g65) ?_
  refine jx_ar (pc_q := 4) (st_q := [.int (i32 (0)), .int (i32 (k))]) rfl rfl rfl rfl ?_
  refine cx_st (st := []) (as := [.int (i32 (k)), .int (i32 (0))]) rfl rfl rfl ⟨rfl, (Nat.le_of_ble_eq_true rfl)⟩ rfl (k_java_lang_Math_max (dd := d) (R := R) (u := 0) (m := m) (tg := tg) (ln := ln) (F := F) (a := k) (b := 0) (hd := by omega) (hC := hC) (h_a := by omega) (h_b := by omega)) (fun o V_q hq => ?_)
  obtain ⟨r68, rfl, rfl, b69, p70, p71, p72, -⟩ := hq
  refine Or.inr (Or.inl ⟨_, rfl, ?_⟩)
  refine jx_ld (pc_q := 9) (l_q := jSto1 L63 4 (.int (i32 (r68)))) (st_q := []) rfl rfl ?_
  obtain ⟨L73, eL73⟩ : ∃ q : jL, q = jSto1 L63 4 (.int (i32 (r68))) := ⟨_, rfl⟩
  rw [← eL73]
  have g74 : jGet L73 0 = some (rv (me)) := eL73 ▸ jg_nr (by decide) g64
  have g75 : jGet L73 1 = some (.int (i32 (k))) := eL73 ▸ jg_ne (by decide) g65 rfl
  have g76 : jGet L73 2 = some (.int (i32 (what))) := eL73 ▸ jg_ne (by decide) g66 rfl
  have g77 : jGet L73 3 = some (.int (i32 (0))) := eL73 ▸ jg_ne (by decide) g67 rfl
  have g78 : jGet L73 4 = some (.int (i32 (r68))) := eL73 ▸ jg_eq
  clear eL73
  exact k_LCore_decode_at_9 (X := X) (d := d) (R := R) (m := m) (tg := tg) (ln := ln) (F := F) (me := me) (k := k) (what := what) (hd := hd) (hC := hC) (o_me := o_me) (t_me := t_me) (h_k := h_k) (h_what := h_what) _ L73 (0) (r68) rfl g74 g75 g76 g77 g78 (by omega) (by omega) (by omega)
set_option maxRecDepth 20000 in
set_option maxHeartbeats 4000000 in
theorem k_LCore_reset_at_10 {X : jX} {d : Nat} {R : Nat → jC} {m : Nat} {tg ln : Int → Int} {F : Int → Int → Int} {me : Int} (hd : 2 ≤ d + 1) (hC : HC 0 m tg ln F) (o_me : own m me) (t_me : tg me = 3) : ∀ (mm : Nat) (L : jL) (Fx : Int → Int → Int) (k : Int), (14 - k).toNat = mm → jGet L 0 = some (rv (me)) → jGet L 1 = some (.int (i32 k)) → HC 0 m tg ln Fx → Fq 0 [(3, 5), (3, 6), (3, 7), (3, 8), (3, 9), (3, 10), (3, 11), (3, 12), (3, 13), (3, 14), (3, 16), (3, 17), (3, 18), (3, 19), (3, 20), (21, -5)] m tg F Fx → ((-2147483648 : Int) ≤ k ∧ k ≤ 2147483647) → (0 ≤ k) → (k ≤ 14) → wj X d jm81 (10, L, [], cV R m tg ln Fx) (fun o V_q => ∃ (F_q : Int → Int → Int), V_q = cV R m tg ln F_q ∧ o = .inl none ∧ HC 0 m tg ln F_q ∧ Fq 0 [(3, 5), (3, 6), (3, 7), (3, 8), (3, 9), (3, 10), (3, 11), (3, 12), (3, 13), (3, 14), (3, 16), (3, 17), (3, 18), (3, 19), (3, 20), (21, -5)] m tg F F_q ∧ True) := by
  intro mm
  induction mm using Nat.strongRecOn with
  | ind mm ih =>
    intro L Fx k hmm gL_0 gL_1 hCx hMx rx_k iv_0 iv_1
    refine jx_ld (pc_q := 11) (l_q := L) (st_q := [.int (i32 (k))]) rfl (jl_iloadn gL_1) ?_
    refine jx_ar (pc_q := 13) (st_q := [.int (i32 (13)), .int (i32 (k))]) rfl rfl rfl rfl ?_
    refine jx_icmp_gt (pc_q := 16) (tg := 28) rfl rfl rfl (by omega) (by omega) (by decide) (by decide) (fun h1 => ?_) (fun h1 => ?_)
    · have _q := h1
      refine jx_ld (pc_q := 29) (l_q := L) (st_q := [rv (me)]) rfl (jl_rvn gL_0) ?_
      refine cx_vi (c := 2) (a := me) (st := []) (as := []) rfl rfl rfl o_me t_me (by decide) rfl ⟨rfl, rfl, (Nat.le_of_ble_eq_true rfl)⟩ rfl (k_LCore_clearRegisters (dd := d) (R := R) (m := m) (tg := tg) (ln := ln) (F := Fx) (me := me) (hd := by omega) (hC := hCx) (o_me := o_me) (t_me := t_me)) (fun o V_q hq => ?_)
      obtain ⟨F2, rfl, rfl, hC3, hM4, -⟩ := hq
      have hM5 : Fq 0 [(3, 5), (3, 6), (3, 7), (3, 8), (3, 9), (3, 10), (3, 11), (3, 12), (3, 13), (3, 14), (3, 16), (3, 17), (3, 18), (3, 19), (3, 20), (21, -5)] m tg F F2 := Fq_t (ln := ln) (ln1 := ln) hMx Ex_r hM4 (by decide) (Or.inl rfl)
      refine Or.inl ⟨rfl, ?_⟩
      refine jx_ld (pc_q := 33) (l_q := L) (st_q := [rv (me)]) rfl (jl_rvn gL_0) ?_
      refine jx_ar (pc_q := 34) (st_q := [.int (i32 (0)), rv (me)]) rfl rfl rfl rfl ?_
      refine cx_pi (pc_q := 37) (c := 2) (q := 13) (qi := (13 : Int)) (z := 0) rfl rfl (by decide) (by decide) rfl rfl rfl (by decide) rfl o_me t_me rfl ?_
      obtain ⟨F6, eF6⟩ : ∃ q, q = uF F2 (me) (13 : Int) (0) := ⟨_, rfl⟩
      rw [← eF6]
      have hC7 : HC 0 m tg ln F6 := by rw [eF6]; exact HC_fi (c := 2) (q := 13) hC3 t_me (by decide) rfl (by omega) (by omega) ⟨fun w => absurd w (by decide), fun _ => ⟨fun w => absurd w (by decide), fun w => absurd w (by decide)⟩⟩
      have hM8 : Fq 0 [(3, 5), (3, 6), (3, 7), (3, 8), (3, 9), (3, 10), (3, 11), (3, 12), (3, 13), (3, 14), (3, 16), (3, 17), (3, 18), (3, 19), (3, 20), (21, -5)] m tg F F6 := by rw [eF6]; exact Fq_p hM5 t_me (fun _ => rfl) rfl
      refine jx_ld (pc_q := 38) (l_q := L) (st_q := [rv (me)]) rfl (jl_rvn gL_0) ?_
      refine jx_ar (pc_q := 39) (st_q := [.int (i32 (0)), rv (me)]) rfl rfl rfl rfl ?_
      refine cx_pi (pc_q := 42) (c := 2) (q := 14) (qi := (14 : Int)) (z := 0) rfl rfl (by decide) (by decide) rfl rfl rfl (by decide) rfl o_me t_me rfl ?_
      obtain ⟨F9, eF9⟩ : ∃ q, q = uF F6 (me) (14 : Int) (0) := ⟨_, rfl⟩
      rw [← eF9]
      have hC10 : HC 0 m tg ln F9 := by rw [eF9]; exact HC_fi (c := 2) (q := 14) hC7 t_me (by decide) rfl (by omega) (by omega) ⟨fun w => absurd w (by decide), fun _ => ⟨fun w => absurd w (by decide), fun w => absurd w (by decide)⟩⟩
      have hM11 : Fq 0 [(3, 5), (3, 6), (3, 7), (3, 8), (3, 9), (3, 10), (3, 11), (3, 12), (3, 13), (3, 14), (3, 16), (3, 17), (3, 18), (3, 19), (3, 20), (21, -5)] m tg F F9 := by rw [eF9]; exact Fq_p hM8 t_me (fun _ => rfl) rfl
      refine jx_ld (pc_q := 43) (l_q := L) (st_q := [rv (me)]) rfl (jl_rvn gL_0) ?_
      refine jx_ar (pc_q := 44) (st_q := [.int (i32 (0)), rv (me)]) rfl rfl rfl rfl ?_
      refine cx_pi (pc_q := 47) (c := 2) (q := 16) (qi := (16 : Int)) (z := 0) rfl rfl (by decide) (by decide) rfl rfl rfl (by decide) rfl o_me t_me rfl ?_
      obtain ⟨F12, eF12⟩ : ∃ q, q = uF F9 (me) (16 : Int) (0) := ⟨_, rfl⟩
      rw [← eF12]
      have hC13 : HC 0 m tg ln F12 := by rw [eF12]; exact HC_fi (c := 2) (q := 16) hC10 t_me (by decide) rfl (by omega) (by omega) ⟨fun w => absurd w (by decide), fun _ => ⟨fun w => absurd w (by decide), fun _ => Or.inr (by have z5 := (hC10.2.2.2.2.2 _ o_me (own_z o_me)).2 t_me; rw [show F9 (me) 15 = F (me) (15 : Int) from ((show F9 (me) (15 : Int) = F6 (me) (15 : Int) from by rw [eF9]; exact uF_j (by decide)).trans ((show F6 (me) (15 : Int) = F2 (me) (15 : Int) from by rw [eF6]; exact uF_j (by decide)).trans ((show F2 (me) (15 : Int) = Fx (me) (15 : Int) from hM4 _ _ o_me (own_z o_me) (by rw [t_me]; rfl)).trans (show Fx (me) (15 : Int) = F (me) (15 : Int) from hMx _ _ o_me (own_z o_me) (by rw [t_me]; rfl)))))] at z5 ⊢; exact ⟨by omega, by omega⟩)⟩⟩
      have hM14 : Fq 0 [(3, 5), (3, 6), (3, 7), (3, 8), (3, 9), (3, 10), (3, 11), (3, 12), (3, 13), (3, 14), (3, 16), (3, 17), (3, 18), (3, 19), (3, 20), (21, -5)] m tg F F12 := by rw [eF12]; exact Fq_p hM11 t_me (fun _ => rfl) rfl
      refine jx_ld (pc_q := 48) (l_q := L) (st_q := [rv (me)]) rfl (jl_rvn gL_0) ?_
      refine jx_ar (pc_q := 49) (st_q := [.int (i32 (0)), rv (me)]) rfl rfl rfl rfl ?_
      refine cx_pi (pc_q := 52) (c := 2) (q := 17) (qi := (17 : Int)) (z := 0) rfl rfl (by decide) (by decide) rfl rfl rfl (by decide) rfl o_me t_me rfl ?_
      obtain ⟨F15, eF15⟩ : ∃ q, q = uF F12 (me) (17 : Int) (0) := ⟨_, rfl⟩
      rw [← eF15]
      have hC16 : HC 0 m tg ln F15 := by rw [eF15]; exact HC_fi (c := 2) (q := 17) hC13 t_me (by decide) rfl (by omega) (by omega) ⟨fun w => absurd w (by decide), fun _ => ⟨fun w => absurd w (by decide), fun w => absurd w (by decide)⟩⟩
      have hM17 : Fq 0 [(3, 5), (3, 6), (3, 7), (3, 8), (3, 9), (3, 10), (3, 11), (3, 12), (3, 13), (3, 14), (3, 16), (3, 17), (3, 18), (3, 19), (3, 20), (21, -5)] m tg F F15 := by rw [eF15]; exact Fq_p hM14 t_me (fun _ => rfl) rfl
      refine jx_ld (pc_q := 53) (l_q := L) (st_q := [rv (me)]) rfl (jl_rvn gL_0) ?_
      refine jx_ar (pc_q := 54) (st_q := [.int (i32 (0)), rv (me)]) rfl rfl rfl rfl ?_
      refine cx_pi (pc_q := 57) (c := 2) (q := 18) (qi := (18 : Int)) (z := 0) rfl rfl (by decide) (by decide) rfl rfl rfl (by decide) rfl o_me t_me rfl ?_
      obtain ⟨F18, eF18⟩ : ∃ q, q = uF F15 (me) (18 : Int) (0) := ⟨_, rfl⟩
      rw [← eF18]
      have hC19 : HC 0 m tg ln F18 := by rw [eF18]; exact HC_fi (c := 2) (q := 18) hC16 t_me (by decide) rfl (by omega) (by omega) ⟨fun w => absurd w (by decide), fun _ => ⟨fun w => absurd w (by decide), fun w => absurd w (by decide)⟩⟩
      have hM20 : Fq 0 [(3, 5), (3, 6), (3, 7), (3, 8), (3, 9), (3, 10), (3, 11), (3, 12), (3, 13), (3, 14), (3, 16), (3, 17), (3, 18), (3, 19), (3, 20), (21, -5)] m tg F F18 := by rw [eF18]; exact Fq_p hM17 t_me (fun _ => rfl) rfl
      refine jx_ld (pc_q := 58) (l_q := L) (st_q := [rv (me)]) rfl (jl_rvn gL_0) ?_
      refine jx_ar (pc_q := 59) (st_q := [.int (i32 (0)), rv (me)]) rfl rfl rfl rfl ?_
      refine cx_pb (pc_q := 62) (c := 2) (q := 20) (qi := (20 : Int)) (z := 0) rfl rfl (by decide) (by decide) rfl rfl rfl (by decide) (by omega) rfl o_me t_me rfl ?_
      obtain ⟨F21, eF21⟩ : ∃ q, q = uF F18 (me) (20 : Int) (0) := ⟨_, rfl⟩
      rw [← eF21]
      have hC22 : HC 0 m tg ln F21 := by rw [eF21]; exact HC_fi (c := 2) (q := 20) hC19 t_me (by decide) rfl (by omega) (by omega) ⟨fun w => absurd w (by decide), fun _ => ⟨fun w => absurd w (by decide), fun w => absurd w (by decide)⟩⟩
      have hM23 : Fq 0 [(3, 5), (3, 6), (3, 7), (3, 8), (3, 9), (3, 10), (3, 11), (3, 12), (3, 13), (3, 14), (3, 16), (3, 17), (3, 18), (3, 19), (3, 20), (21, -5)] m tg F F21 := by rw [eF21]; exact Fq_p hM20 t_me (fun _ => rfl) rfl
      refine jx_ld (pc_q := 63) (l_q := L) (st_q := [rv (me)]) rfl (jl_rvn gL_0) ?_
      refine jx_ar (pc_q := 64) (st_q := [.int (i32 (1)), rv (me)]) rfl rfl rfl rfl ?_
      refine cx_pb (pc_q := 67) (c := 2) (q := 11) (qi := (11 : Int)) (z := 1) rfl rfl (by decide) (by decide) rfl rfl rfl (by decide) (by omega) rfl o_me t_me rfl ?_
      obtain ⟨F24, eF24⟩ : ∃ q, q = uF F21 (me) (11 : Int) (1) := ⟨_, rfl⟩
      rw [← eF24]
      have hC25 : HC 0 m tg ln F24 := by rw [eF24]; exact HC_fi (c := 2) (q := 11) hC22 t_me (by decide) rfl (by omega) (by omega) ⟨fun w => absurd w (by decide), fun _ => ⟨fun w => absurd w (by decide), fun w => absurd w (by decide)⟩⟩
      have hM26 : Fq 0 [(3, 5), (3, 6), (3, 7), (3, 8), (3, 9), (3, 10), (3, 11), (3, 12), (3, 13), (3, 14), (3, 16), (3, 17), (3, 18), (3, 19), (3, 20), (21, -5)] m tg F F24 := by rw [eF24]; exact Fq_p hM23 t_me (fun _ => rfl) rfl
      refine jx_ld (pc_q := 68) (l_q := L) (st_q := [rv (me)]) rfl (jl_rvn gL_0) ?_
      refine jx_ar (pc_q := 69) (st_q := [.int (i32 (1)), rv (me)]) rfl rfl rfl rfl ?_
      refine cx_pi (pc_q := 72) (c := 2) (q := 12) (qi := (12 : Int)) (z := 1) rfl rfl (by decide) (by decide) rfl rfl rfl (by decide) rfl o_me t_me rfl ?_
      obtain ⟨F27, eF27⟩ : ∃ q, q = uF F24 (me) (12 : Int) (1) := ⟨_, rfl⟩
      rw [← eF27]
      have hC28 : HC 0 m tg ln F27 := by rw [eF27]; exact HC_fi (c := 2) (q := 12) hC25 t_me (by decide) rfl (by omega) (by omega) ⟨fun w => absurd w (by decide), fun _ => ⟨fun w => absurd w (by decide), fun w => absurd w (by decide)⟩⟩
      have hM29 : Fq 0 [(3, 5), (3, 6), (3, 7), (3, 8), (3, 9), (3, 10), (3, 11), (3, 12), (3, 13), (3, 14), (3, 16), (3, 17), (3, 18), (3, 19), (3, 20), (21, -5)] m tg F F27 := by rw [eF27]; exact Fq_p hM26 t_me (fun _ => rfl) rfl
      refine jx_ld (pc_q := 73) (l_q := L) (st_q := [rv (me)]) rfl (jl_rvn gL_0) ?_
      refine jx_ld (pc_q := 74) (l_q := L) (st_q := [rv (me), rv (me)]) rfl (jl_rvn gL_0) ?_
      refine cx_gi (pc_q := 77) (c := 2) (q := 2) (v := F (me) (2 : Int)) rfl rfl (by decide) (by decide) (Or.inl rfl) rfl o_me t_me ((show F27 (me) (2 : Int) = F24 (me) (2 : Int) from by rw [eF27]; exact uF_j (by decide)).trans ((show F24 (me) (2 : Int) = F21 (me) (2 : Int) from by rw [eF24]; exact uF_j (by decide)).trans ((show F21 (me) (2 : Int) = F18 (me) (2 : Int) from by rw [eF21]; exact uF_j (by decide)).trans ((show F18 (me) (2 : Int) = F15 (me) (2 : Int) from by rw [eF18]; exact uF_j (by decide)).trans ((show F15 (me) (2 : Int) = F12 (me) (2 : Int) from by rw [eF15]; exact uF_j (by decide)).trans ((show F12 (me) (2 : Int) = F9 (me) (2 : Int) from by rw [eF12]; exact uF_j (by decide)).trans ((show F9 (me) (2 : Int) = F6 (me) (2 : Int) from by rw [eF9]; exact uF_j (by decide)).trans ((show F6 (me) (2 : Int) = F2 (me) (2 : Int) from by rw [eF6]; exact uF_j (by decide)).trans ((show F2 (me) (2 : Int) = Fx (me) (2 : Int) from hM4 _ _ o_me (own_z o_me) (by rw [t_me]; rfl)).trans (show Fx (me) (2 : Int) = F (me) (2 : Int) from hMx _ _ o_me (own_z o_me) (by rw [t_me]; rfl))))))))))) ?_
      have b30 : (-2147483648 : Int) ≤ F (me) (2 : Int) ∧ F (me) (2 : Int) ≤ 2147483647 := by have z := HC_i (c := 2) (q := 2) hC28 o_me t_me (by decide) rfl; rw [show F27 (me) ((2 : Nat) : Int) = F (me) (2 : Int) from ((show F27 (me) (2 : Int) = F24 (me) (2 : Int) from by rw [eF27]; exact uF_j (by decide)).trans ((show F24 (me) (2 : Int) = F21 (me) (2 : Int) from by rw [eF24]; exact uF_j (by decide)).trans ((show F21 (me) (2 : Int) = F18 (me) (2 : Int) from by rw [eF21]; exact uF_j (by decide)).trans ((show F18 (me) (2 : Int) = F15 (me) (2 : Int) from by rw [eF18]; exact uF_j (by decide)).trans ((show F15 (me) (2 : Int) = F12 (me) (2 : Int) from by rw [eF15]; exact uF_j (by decide)).trans ((show F12 (me) (2 : Int) = F9 (me) (2 : Int) from by rw [eF12]; exact uF_j (by decide)).trans ((show F9 (me) (2 : Int) = F6 (me) (2 : Int) from by rw [eF9]; exact uF_j (by decide)).trans ((show F6 (me) (2 : Int) = F2 (me) (2 : Int) from by rw [eF6]; exact uF_j (by decide)).trans ((show F2 (me) (2 : Int) = Fx (me) (2 : Int) from hM4 _ _ o_me (own_z o_me) (by rw [t_me]; rfl)).trans (show Fx (me) (2 : Int) = F (me) (2 : Int) from hMx _ _ o_me (own_z o_me) (by rw [t_me]; rfl)))))))))))] at z; exact z
      refine cx_pi (pc_q := 80) (c := 2) (q := 8) (qi := (8 : Int)) (z := F (me) (2 : Int)) rfl rfl (by decide) (by decide) rfl rfl rfl (by decide) rfl o_me t_me rfl ?_
      obtain ⟨F31, eF31⟩ : ∃ q, q = uF F27 (me) (8 : Int) (F (me) (2 : Int)) := ⟨_, rfl⟩
      rw [← eF31]
      have hC32 : HC 0 m tg ln F31 := by rw [eF31]; exact HC_fi (c := 2) (q := 8) hC28 t_me (by decide) rfl (by omega) (by omega) ⟨fun w => absurd w (by decide), fun _ => ⟨fun w => absurd w (by decide), fun w => absurd w (by decide)⟩⟩
      have hM33 : Fq 0 [(3, 5), (3, 6), (3, 7), (3, 8), (3, 9), (3, 10), (3, 11), (3, 12), (3, 13), (3, 14), (3, 16), (3, 17), (3, 18), (3, 19), (3, 20), (21, -5)] m tg F F31 := by rw [eF31]; exact Fq_p hM29 t_me (fun _ => rfl) rfl
      refine jx_ld (pc_q := 81) (l_q := L) (st_q := [rv (me)]) rfl (jl_rvn gL_0) ?_
      refine jx_ld (pc_q := 82) (l_q := L) (st_q := [rv (me), rv (me)]) rfl (jl_rvn gL_0) ?_
      refine cx_gi (pc_q := 85) (c := 2) (q := 3) (v := F (me) (3 : Int)) rfl rfl (by decide) (by decide) (Or.inl rfl) rfl o_me t_me ((show F31 (me) (3 : Int) = F27 (me) (3 : Int) from by rw [eF31]; exact uF_j (by decide)).trans ((show F27 (me) (3 : Int) = F24 (me) (3 : Int) from by rw [eF27]; exact uF_j (by decide)).trans ((show F24 (me) (3 : Int) = F21 (me) (3 : Int) from by rw [eF24]; exact uF_j (by decide)).trans ((show F21 (me) (3 : Int) = F18 (me) (3 : Int) from by rw [eF21]; exact uF_j (by decide)).trans ((show F18 (me) (3 : Int) = F15 (me) (3 : Int) from by rw [eF18]; exact uF_j (by decide)).trans ((show F15 (me) (3 : Int) = F12 (me) (3 : Int) from by rw [eF15]; exact uF_j (by decide)).trans ((show F12 (me) (3 : Int) = F9 (me) (3 : Int) from by rw [eF12]; exact uF_j (by decide)).trans ((show F9 (me) (3 : Int) = F6 (me) (3 : Int) from by rw [eF9]; exact uF_j (by decide)).trans ((show F6 (me) (3 : Int) = F2 (me) (3 : Int) from by rw [eF6]; exact uF_j (by decide)).trans ((show F2 (me) (3 : Int) = Fx (me) (3 : Int) from hM4 _ _ o_me (own_z o_me) (by rw [t_me]; rfl)).trans (show Fx (me) (3 : Int) = F (me) (3 : Int) from hMx _ _ o_me (own_z o_me) (by rw [t_me]; rfl)))))))))))) ?_
      have b34 : (-2147483648 : Int) ≤ F (me) (3 : Int) ∧ F (me) (3 : Int) ≤ 2147483647 := by have z := HC_i (c := 2) (q := 3) hC32 o_me t_me (by decide) rfl; rw [show F31 (me) ((3 : Nat) : Int) = F (me) (3 : Int) from ((show F31 (me) (3 : Int) = F27 (me) (3 : Int) from by rw [eF31]; exact uF_j (by decide)).trans ((show F27 (me) (3 : Int) = F24 (me) (3 : Int) from by rw [eF27]; exact uF_j (by decide)).trans ((show F24 (me) (3 : Int) = F21 (me) (3 : Int) from by rw [eF24]; exact uF_j (by decide)).trans ((show F21 (me) (3 : Int) = F18 (me) (3 : Int) from by rw [eF21]; exact uF_j (by decide)).trans ((show F18 (me) (3 : Int) = F15 (me) (3 : Int) from by rw [eF18]; exact uF_j (by decide)).trans ((show F15 (me) (3 : Int) = F12 (me) (3 : Int) from by rw [eF15]; exact uF_j (by decide)).trans ((show F12 (me) (3 : Int) = F9 (me) (3 : Int) from by rw [eF12]; exact uF_j (by decide)).trans ((show F9 (me) (3 : Int) = F6 (me) (3 : Int) from by rw [eF9]; exact uF_j (by decide)).trans ((show F6 (me) (3 : Int) = F2 (me) (3 : Int) from by rw [eF6]; exact uF_j (by decide)).trans ((show F2 (me) (3 : Int) = Fx (me) (3 : Int) from hM4 _ _ o_me (own_z o_me) (by rw [t_me]; rfl)).trans (show Fx (me) (3 : Int) = F (me) (3 : Int) from hMx _ _ o_me (own_z o_me) (by rw [t_me]; rfl))))))))))))] at z; exact z
      refine cx_pi (pc_q := 88) (c := 2) (q := 9) (qi := (9 : Int)) (z := F (me) (3 : Int)) rfl rfl (by decide) (by decide) rfl rfl rfl (by decide) rfl o_me t_me rfl ?_
      obtain ⟨F35, eF35⟩ : ∃ q, q = uF F31 (me) (9 : Int) (F (me) (3 : Int)) := ⟨_, rfl⟩
      rw [← eF35]
      have hC36 : HC 0 m tg ln F35 := by rw [eF35]; exact HC_fi (c := 2) (q := 9) hC32 t_me (by decide) rfl (by omega) (by omega) ⟨fun w => absurd w (by decide), fun _ => ⟨fun w => absurd w (by decide), fun w => absurd w (by decide)⟩⟩
      have hM37 : Fq 0 [(3, 5), (3, 6), (3, 7), (3, 8), (3, 9), (3, 10), (3, 11), (3, 12), (3, 13), (3, 14), (3, 16), (3, 17), (3, 18), (3, 19), (3, 20), (21, -5)] m tg F F35 := by rw [eF35]; exact Fq_p hM33 t_me (fun _ => rfl) rfl
      refine jx_rt (v := none) rfl rfl rfl rfl rfl rfl ?_
      exact ⟨F35, rfl, rfl, hC36, hM37, trivial⟩
    · have _q := h1
      refine jx_ld (pc_q := 17) (l_q := L) (st_q := [rv (me)]) rfl (jl_rvn gL_0) ?_
      refine jx_ld (pc_q := 18) (l_q := L) (st_q := [.int (i32 (k)), rv (me)]) rfl (jl_iloadn gL_1) ?_
      refine jx_ar (pc_q := 19) (st_q := [.int (i32 (-1)), .int (i32 (k)), rv (me)]) rfl rfl rfl rfl ?_
      refine cx_vi (c := 2) (a := me) (st := []) (as := [.int (i32 (k)), .int (i32 (-1))]) rfl rfl rfl o_me t_me (by decide) rfl ⟨rfl, rfl, (Nat.le_of_ble_eq_true rfl)⟩ rfl (k_LCore_poke (dd := d) (R := R) (m := m) (tg := tg) (ln := ln) (F := Fx) (me := me) (a0 := k) (a1 := -1) (hd := by omega) (hC := hCx) (o_me := o_me) (t_me := t_me) (h_a0 := by omega) (h_a1 := by omega)) (fun o V_q hq => ?_)
      obtain ⟨F38, rfl, rfl, hC39, hM40, -⟩ := hq
      have hM41 : Fq 0 [(3, 5), (3, 6), (3, 7), (3, 8), (3, 9), (3, 10), (3, 11), (3, 12), (3, 13), (3, 14), (3, 16), (3, 17), (3, 18), (3, 19), (3, 20), (21, -5)] m tg F F38 := Fq_t (ln := ln) (ln1 := ln) hMx Ex_r hM40 (by decide) (Or.inl rfl)
      refine Or.inl ⟨rfl, ?_⟩
      refine jx_inc (pc_q := 25) (l_q := jSto1 L 1 (.int (i32 (k + (1))))) (x := k) rfl gL_1 (by decide) rfl rfl ?_
      obtain ⟨L42, eL42⟩ : ∃ q : jL, q = jSto1 L 1 (.int (i32 ((k + (1))))) := ⟨_, rfl⟩
      rw [← eL42]
      have g43 : jGet L42 0 = some (rv (me)) := eL42 ▸ jg_nr (by decide) gL_0
      have g44 : jGet L42 1 = some (.int (i32 ((k + (1))))) := eL42 ▸ jg_eq
      clear eL42
      refine jx_go (tg := 10) rfl rfl ?_
      exact ih _ (by omega) L42 F38 ((k + (1))) rfl g43 g44 hC39 hM41 (by omega) (by omega) (by omega)
set_option maxRecDepth 20000 in
set_option maxHeartbeats 4000000 in
theorem k_LCore_reset {X : jX} {dd : Nat} {R : Nat → jC} {m : Nat} {tg ln : Int → Int} {F : Int → Int → Int} {me : Int} (hd : 2 ≤ dd) (hC : HC 0 m tg ln F) (o_me : own m me) (t_me : tg me = 3) : wk X dd 81 [rv me] (cV R m tg ln F) (fun o V_q => ∃ (F_q : Int → Int → Int), V_q = cV R m tg ln F_q ∧ o = .inl none ∧ HC 0 m tg ln F_q ∧ Fq 0 [(3, 5), (3, 6), (3, 7), (3, 8), (3, 9), (3, 10), (3, 11), (3, 12), (3, 13), (3, 14), (3, 16), (3, 17), (3, 18), (3, 19), (3, 20), (21, -5)] m tg F F_q ∧ True) := by
  obtain ⟨d, rfl⟩ : ∃ d, dd = d + 1 := ⟨dd - 1, by omega⟩
  refine wk_of (e := jm81) rfl (by rw [jS_r, jS_0]; exact Nat.le_of_ble_eq_true rfl) ?_
  rw [la_r, la_0]
  show wj X d jm81 (0, [(0, rv (me))], [], cV R m tg ln F) _
  have hM0 : Fq 0 [(3, 5), (3, 6), (3, 7), (3, 8), (3, 9), (3, 10), (3, 11), (3, 12), (3, 13), (3, 14), (3, 16), (3, 17), (3, 18), (3, 19), (3, 20), (21, -5)] m tg F F := Fq_r
  obtain ⟨L0, eL0⟩ : ∃ q : jL, q = [(0, rv (me))] := ⟨_, rfl⟩
  rw [← eL0]
  have g45 : jGet L0 0 = some (rv (me)) := eL0 ▸ (rfl : jGet [(0, rv (me))] 0 = some (rv (me)))
  clear eL0
  refine jx_ld (pc_q := 1) (l_q := L0) (st_q := [rv (me)]) rfl (jl_rvn g45) ?_
  refine cx_gr (pc_q := 4) (c := 2) (q := 4) (v := F (me) (4 : Int)) rfl rfl (by decide) (by decide) rfl rfl o_me t_me rfl ?_
  have y46 : own m (F (me) (4 : Int)) ∧ tg (F (me) (4 : Int)) = 21 ∧ ((0 : Int) ≠ 0 → ln (F (me) (4 : Int)) = 0) := by have z := HC_n (c := 2) (q := 4) hC o_me t_me (own_z o_me) (by decide) rfl; rw [show F (me) ((4 : Nat) : Int) = F (me) (4 : Int) from rfl] at z; exact ⟨z.1, z.2.1, z.2.2.1⟩
  refine jx_ar (pc_q := 5) (st_q := [.int (i32 (0)), rv (F (me) (4 : Int))]) rfl rfl rfl rfl ?_
  refine cx_st (st := []) (as := [rv (F (me) (4 : Int)), .int (i32 (0))]) rfl rfl rfl ⟨rfl, (Nat.le_of_ble_eq_true rfl)⟩ rfl (k_java_util_Arrays_fill (dd := d) (R := R) (m := m) (tg := tg) (ln := ln) (F := F) (row := F (me) (4 : Int)) (v := 0) (hd := by omega) (hC := hC) (o_row := y46.1) (t_row := y46.2.1) (s_row := (show F (F (me) (4 : Int)) (-1) = 0 by have z := HC_n (c := 2) (q := 4) hC o_me t_me (own_z o_me) (by decide) rfl; rw [show F (me) ((4 : Nat) : Int) = F (me) (4 : Int) from rfl] at z; exact z.2.2.2 (by decide))) (h_v := by omega)) (fun o V_q hq => ?_)
  obtain ⟨F47, rfl, rfl, hC48, hM49, -⟩ := hq
  have hM50 : Fq 0 [(3, 5), (3, 6), (3, 7), (3, 8), (3, 9), (3, 10), (3, 11), (3, 12), (3, 13), (3, 14), (3, 16), (3, 17), (3, 18), (3, 19), (3, 20), (21, -5)] m tg F F47 := Fq_t (ln := ln) (ln1 := ln) hM0 Ex_r hM49 (by decide) (Or.inl rfl)
  refine Or.inl ⟨rfl, ?_⟩
  refine jx_ar (pc_q := 9) (st_q := [.int (i32 (0))]) rfl rfl rfl rfl ?_
  refine jx_ld (pc_q := 10) (l_q := jSto1 L0 1 (.int (i32 (0)))) (st_q := []) rfl rfl ?_
  obtain ⟨L51, eL51⟩ : ∃ q : jL, q = jSto1 L0 1 (.int (i32 (0))) := ⟨_, rfl⟩
  rw [← eL51]
  have g52 : jGet L51 0 = some (rv (me)) := eL51 ▸ jg_nr (by decide) g45
  have g53 : jGet L51 1 = some (.int (i32 (0))) := eL51 ▸ jg_eq
  clear eL51
  exact k_LCore_reset_at_10 (X := X) (d := d) (R := R) (m := m) (tg := tg) (ln := ln) (F := F) (me := me) (hd := hd) (hC := hC) (o_me := o_me) (t_me := t_me) _ L51 F47 (0) rfl g52 g53 hC48 hM50 (by omega) (by omega) (by omega)
set_option maxRecDepth 20000 in
set_option maxHeartbeats 4000000 in
theorem k_LCore_jump {X : jX} {dd : Nat} {R : Nat → jC} {m : Nat} {tg ln : Int → Int} {F : Int → Int → Int} {me a0 : Int} (hd : 4 ≤ dd) (hC : HC 0 m tg ln F) (o_me : own m me) (t_me : tg me = 3) (h_a0 : (-2147483648 : Int) ≤ a0 ∧ a0 ≤ 2147483647) : wk X dd 107 [rv me, .int (i32 a0)] (cV R m tg ln F) (fun o V_q => ∃ (F_q : Int → Int → Int), V_q = cV R m tg ln F_q ∧ o = .inl none ∧ HC 0 m tg ln F_q ∧ Fq 0 [(3, 5), (3, 6), (3, 7), (3, 8), (3, 9), (3, 10), (3, 11), (3, 16), (3, 17), (3, 19), (21, -5)] m tg F F_q ∧ True) := by
  obtain ⟨d, rfl⟩ : ∃ d, dd = d + 1 := ⟨dd - 1, by omega⟩
  refine wk_of (e := jm107) rfl (by rw [jS_r, jS_i, jS_0]; exact Nat.le_of_ble_eq_true rfl) ?_
  rw [la_r, la_i, la_0]
  show wj X d jm107 (0, [(0, rv (me)), (1, .int (i32 (a0)))], [], cV R m tg ln F) _
  have hM0 : Fq 0 [(3, 5), (3, 6), (3, 7), (3, 8), (3, 9), (3, 10), (3, 11), (3, 16), (3, 17), (3, 19), (21, -5)] m tg F F := Fq_r
  obtain ⟨L0, eL0⟩ : ∃ q : jL, q = [(0, rv (me)), (1, .int (i32 (a0)))] := ⟨_, rfl⟩
  rw [← eL0]
  have g1 : jGet L0 0 = some (rv (me)) := eL0 ▸ (rfl : jGet [(0, rv (me)), (1, .int (i32 (a0)))] 0 = some (rv (me)))
  have g2 : jGet L0 1 = some (.int (i32 (a0))) := eL0 ▸ (rfl : jGet [(0, rv (me)), (1, .int (i32 (a0)))] 1 = some (.int (i32 (a0))))
  clear eL0
  refine jx_ld (pc_q := 1) (l_q := L0) (st_q := [rv (me)]) rfl (jl_rvn g1) ?_
  refine jx_ar (pc_q := 2) (st_q := [rv (me), rv (me)]) rfl rfl ja_dup rfl ?_
  refine cx_gi (pc_q := 5) (c := 2) (q := 8) (v := F (me) (8 : Int)) rfl rfl (by decide) (by decide) (Or.inl rfl) rfl o_me t_me rfl ?_
  have b3 : (-2147483648 : Int) ≤ F (me) (8 : Int) ∧ F (me) (8 : Int) ≤ 2147483647 := by have z := HC_i (c := 2) (q := 8) hC o_me t_me (by decide) rfl; rw [show F (me) ((8 : Nat) : Int) = F (me) (8 : Int) from rfl] at z; exact z
  refine jx_ld (pc_q := 6) (l_q := L0) (st_q := [.int (i32 (a0)), .int (i32 (F (me) (8 : Int))), rv (me)]) rfl (jl_iloadn g2) ?_
  refine jx_add (pc_q := 7) rfl rfl ?_
  obtain ⟨z4, ez4⟩ : ∃ q, q = (i32 ((F (me) (8 : Int) + a0))).toInt := ⟨_, rfl⟩
  have bz4 : (-2147483648 : Int) ≤ z4 ∧ z4 ≤ 2147483647 := ez4 ▸ i32_rg _
  rw [show i32 ((F (me) (8 : Int) + a0)) = i32 z4 by rw [ez4, i32_of]]
  clear ez4
  refine cx_pi (pc_q := 10) (c := 2) (q := 8) (qi := (8 : Int)) (z := z4) rfl rfl (by decide) (by decide) rfl rfl rfl (by decide) rfl o_me t_me rfl ?_
  obtain ⟨F5, eF5⟩ : ∃ q, q = uF F (me) (8 : Int) (z4) := ⟨_, rfl⟩
  rw [← eF5]
  have hC6 : HC 0 m tg ln F5 := by rw [eF5]; exact HC_fi (c := 2) (q := 8) hC t_me (by decide) rfl (by omega) (by omega) ⟨fun w => absurd w (by decide), fun _ => ⟨fun w => absurd w (by decide), fun w => absurd w (by decide)⟩⟩
  have hM7 : Fq 0 [(3, 5), (3, 6), (3, 7), (3, 8), (3, 9), (3, 10), (3, 11), (3, 16), (3, 17), (3, 19), (21, -5)] m tg F F5 := by rw [eF5]; exact Fq_p hM0 t_me (fun _ => rfl) rfl
  refine jx_ld (pc_q := 11) (l_q := L0) (st_q := [rv (me)]) rfl (jl_rvn g1) ?_
  refine cx_gi (pc_q := 14) (c := 2) (q := 12) (v := F (me) (12 : Int)) rfl rfl (by decide) (by decide) (Or.inl rfl) rfl o_me t_me (show F5 (me) (12 : Int) = F (me) (12 : Int) from by rw [eF5]; exact uF_j (by decide)) ?_
  have b8 : (-2147483648 : Int) ≤ F (me) (12 : Int) ∧ F (me) (12 : Int) ≤ 2147483647 := by have z := HC_i (c := 2) (q := 12) hC6 o_me t_me (by decide) rfl; rw [show F5 (me) ((12 : Nat) : Int) = F (me) (12 : Int) from (show F5 (me) (12 : Int) = F (me) (12 : Int) from by rw [eF5]; exact uF_j (by decide))] at z; exact z
  refine jx_ar (pc_q := 15) (st_q := [.int (i32 (1)), .int (i32 (F (me) (12 : Int)))]) rfl rfl rfl rfl ?_
  refine jx_icmp_ne (pc_q := 18) (tg := 54) rfl rfl rfl (by omega) (by omega) (by decide) (by decide) (fun h9 => ?_) (fun h9 => ?_)
  · have _q := h9
    refine jx_rt (v := none) rfl rfl rfl rfl rfl rfl ?_
    exact ⟨F5, rfl, rfl, hC6, hM7, trivial⟩
  · have _q := h9
    refine jx_ld (pc_q := 19) (l_q := L0) (st_q := [rv (me)]) rfl (jl_rvn g1) ?_
    refine cx_gi (pc_q := 22) (c := 2) (q := 19) (v := F (me) (19 : Int)) rfl rfl (by decide) (by decide) (Or.inl rfl) rfl o_me t_me (show F5 (me) (19 : Int) = F (me) (19 : Int) from by rw [eF5]; exact uF_j (by decide)) ?_
    have b10 : (-2147483648 : Int) ≤ F (me) (19 : Int) ∧ F (me) (19 : Int) ≤ 2147483647 := by have z := HC_i (c := 2) (q := 19) hC6 o_me t_me (by decide) rfl; rw [show F5 (me) ((19 : Nat) : Int) = F (me) (19 : Int) from (show F5 (me) (19 : Int) = F (me) (19 : Int) from by rw [eF5]; exact uF_j (by decide))] at z; exact z
    refine jx_ar (pc_q := 24) (st_q := [.int (i32 (64)), .int (i32 (F (me) (19 : Int)))]) rfl rfl rfl rfl ?_
    refine jx_icmp_lt (pc_q := 27) (tg := 54) rfl rfl rfl (by omega) (by omega) (by decide) (by decide) (fun h11 => ?_) (fun h11 => ?_)
    · have _q := h11
      refine jx_rt (v := none) rfl rfl rfl rfl rfl rfl ?_
      exact ⟨F5, rfl, rfl, hC6, hM7, trivial⟩
    · have _q := h11
      refine jx_ld (pc_q := 28) (l_q := L0) (st_q := [rv (me)]) rfl (jl_rvn g1) ?_
      refine cx_gi (pc_q := 31) (c := 2) (q := 16) (v := F (me) (16 : Int)) rfl rfl (by decide) (by decide) (Or.inl rfl) rfl o_me t_me (show F5 (me) (16 : Int) = F (me) (16 : Int) from by rw [eF5]; exact uF_j (by decide)) ?_
      have b12 : (-2147483648 : Int) ≤ F (me) (16 : Int) ∧ F (me) (16 : Int) ≤ 2147483647 := by have z := HC_i (c := 2) (q := 16) hC6 o_me t_me (by decide) rfl; rw [show F5 (me) ((16 : Nat) : Int) = F (me) (16 : Int) from (show F5 (me) (16 : Int) = F (me) (16 : Int) from by rw [eF5]; exact uF_j (by decide))] at z; exact z
      have x13 := (hC6.2.2.2.2.2 (me) o_me (own_z o_me)).2 t_me
      rw [show F5 (me) (15 : Int) = F (me) (15 : Int) from (show F5 (me) (15 : Int) = F (me) (15 : Int) from by rw [eF5]; exact uF_j (by decide))] at x13
      rw [show F5 (me) (16 : Int) = F (me) (16 : Int) from (show F5 (me) (16 : Int) = F (me) (16 : Int) from by rw [eF5]; exact uF_j (by decide))] at x13
      refine jx_ld (pc_q := 32) (l_q := L0) (st_q := [rv (me), .int (i32 (F (me) (16 : Int)))]) rfl (jl_rvn g1) ?_
      refine cx_gi (pc_q := 35) (c := 2) (q := 17) (v := F (me) (17 : Int)) rfl rfl (by decide) (by decide) (Or.inl rfl) rfl o_me t_me (show F5 (me) (17 : Int) = F (me) (17 : Int) from by rw [eF5]; exact uF_j (by decide)) ?_
      have b14 : (-2147483648 : Int) ≤ F (me) (17 : Int) ∧ F (me) (17 : Int) ≤ 2147483647 := by have z := HC_i (c := 2) (q := 17) hC6 o_me t_me (by decide) rfl; rw [show F5 (me) ((17 : Nat) : Int) = F (me) (17 : Int) from (show F5 (me) (17 : Int) = F (me) (17 : Int) from by rw [eF5]; exact uF_j (by decide))] at z; exact z
      refine jx_icmp_le (pc_q := 38) (tg := 54) rfl rfl rfl (by omega) (by omega) (by omega) (by omega) (fun h15 => ?_) (fun h15 => ?_)
      · have _q := h15
        refine jx_rt (v := none) rfl rfl rfl rfl rfl rfl ?_
        exact ⟨F5, rfl, rfl, hC6, hM7, trivial⟩
      · have _q := h15
        refine jx_ld (pc_q := 39) (l_q := L0) (st_q := [rv (me)]) rfl (jl_rvn g1) ?_
        refine jx_ld (pc_q := 40) (l_q := L0) (st_q := [rv (me), rv (me)]) rfl (jl_rvn g1) ?_
        refine cx_gi (pc_q := 43) (c := 2) (q := 16) (v := F (me) (16 : Int)) rfl rfl (by decide) (by decide) (Or.inl rfl) rfl o_me t_me (show F5 (me) (16 : Int) = F (me) (16 : Int) from by rw [eF5]; exact uF_j (by decide)) ?_
        have x16 := (hC6.2.2.2.2.2 (me) o_me (own_z o_me)).2 t_me
        rw [show F5 (me) (15 : Int) = F (me) (15 : Int) from (show F5 (me) (15 : Int) = F (me) (15 : Int) from by rw [eF5]; exact uF_j (by decide))] at x16
        rw [show F5 (me) (16 : Int) = F (me) (16 : Int) from (show F5 (me) (16 : Int) = F (me) (16 : Int) from by rw [eF5]; exact uF_j (by decide))] at x16
        refine jx_ld (pc_q := 44) (l_q := L0) (st_q := [rv (me), .int (i32 (F (me) (16 : Int))), rv (me)]) rfl (jl_rvn g1) ?_
        refine cx_vi (c := 2) (a := me) (st := [.int (i32 (F (me) (16 : Int))), rv (me)]) (as := []) rfl rfl rfl o_me t_me (by decide) rfl ⟨rfl, rfl, (by rw [jS_i, jS_r, jS_0]; exact Nat.le_of_ble_eq_true rfl)⟩ rfl (k_LCore_self (dd := d) (R := R) (m := m) (tg := tg) (ln := ln) (F := F5) (me := me) (hd := by omega) (hC := hC6) (o_me := o_me) (t_me := t_me)) (fun o V_q hq => ?_)
        obtain ⟨r17, rfl, rfl, b18, -⟩ := hq
        refine Or.inr (Or.inl ⟨_, rfl, ?_⟩)
        refine cx_vi (c := 2) (a := me) (st := []) (as := [.int (i32 (F (me) (16 : Int))), .int (i32 (r17))]) rfl rfl rfl o_me t_me (by decide) rfl ⟨rfl, rfl, (Nat.le_of_ble_eq_true rfl)⟩ rfl (k_LCore_insert (dd := d) (R := R) (m := m) (tg := tg) (ln := ln) (F := F5) (me := me) (a0 := F (me) (16 : Int)) (a1 := r17) (hd := by omega) (hC := hC6) (o_me := o_me) (t_me := t_me) (h_a0 := by omega) (h_a1 := by omega)) (fun o V_q hq => ?_)
        obtain ⟨F19, rfl, rfl, hC20, hM21, -⟩ := hq
        have hM22 : Fq 0 [(3, 5), (3, 6), (3, 7), (3, 8), (3, 9), (3, 10), (3, 11), (3, 16), (3, 17), (3, 19), (21, -5)] m tg F F19 := Fq_t (ln := ln) (ln1 := ln) hM7 Ex_r hM21 (by decide) (Or.inl rfl)
        refine Or.inl ⟨rfl, ?_⟩
        refine jx_ld (pc_q := 51) (l_q := L0) (st_q := [rv (me)]) rfl (jl_rvn g1) ?_
        refine cx_vi (c := 2) (a := me) (st := []) (as := []) rfl rfl rfl o_me t_me (by decide) rfl ⟨rfl, rfl, (Nat.le_of_ble_eq_true rfl)⟩ rfl (k_LCore_waitHere (dd := d) (R := R) (m := m) (tg := tg) (ln := ln) (F := F19) (me := me) (hd := by omega) (hC := hC20) (o_me := o_me) (t_me := t_me)) (fun o V_q hq => ?_)
        obtain ⟨F23, rfl, rfl, hC24, hM25, -⟩ := hq
        have hM26 : Fq 0 [(3, 5), (3, 6), (3, 7), (3, 8), (3, 9), (3, 10), (3, 11), (3, 16), (3, 17), (3, 19), (21, -5)] m tg F F23 := Fq_t (ln := ln) (ln1 := ln) hM22 Ex_r hM25 (by decide) (Or.inl rfl)
        refine Or.inl ⟨rfl, ?_⟩
        refine jx_rt (v := none) rfl rfl rfl rfl rfl rfl ?_
        exact ⟨F23, rfl, rfl, hC24, hM26, trivial⟩
