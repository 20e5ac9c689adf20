set_option maxRecDepth 20000 in
set_option maxHeartbeats 4000000 in
theorem k_LCoder_emit {X : jX} {dd : Nat} {R : Nat → jC} {m : Nat} {tg ln : Int → Int} {F : Int → Int → Int} {me fu op : Int} (hd : 1 ≤ dd) (hC : HC 0 m tg ln F) (o_me : own m me) (t_me : tg me = 2) (h_fu : (-2147483648 : Int) ≤ fu ∧ fu ≤ 2147483647) (h_op : (-2147483648 : Int) ≤ op ∧ op ≤ 2147483647) : wk X dd 46 [rv me, .int (i32 fu), .int (i32 op)] (cV R m tg ln F) (fun o V_q => ∃ (F_q : Int → Int → Int), V_q = cV R m tg ln F_q ∧ o = .inl none ∧ HC 0 m tg ln F_q ∧ Fq 0 [(2, 7), (2, 11), (20, -5), (21, -5)] m tg F F_q ∧ True) := by
  obtain ⟨d, rfl⟩ : ∃ d, dd = d + 1 := ⟨dd - 1, by omega⟩
  refine wk_of (e := jm46) rfl (by rw [jS_r, jS_i, jS_i, jS_0]; exact Nat.le_of_ble_eq_true rfl) ?_
  rw [la_r, la_i, la_i, la_0]
  show wj X d jm46 (0, [(0, rv (me)), (1, .int (i32 (fu))), (2, .int (i32 (op)))], [], cV R m tg ln F) _
  have hM0 : Fq 0 [(2, 7), (2, 11), (20, -5), (21, -5)] m tg F F := Fq_r
  obtain ⟨L0, eL0⟩ : ∃ q : jL, q = [(0, rv (me)), (1, .int (i32 (fu))), (2, .int (i32 (op)))] := ⟨_, rfl⟩
  rw [← eL0]
  have g1 : jGet L0 0 = some (rv (me)) := eL0 ▸ (rfl : jGet [(0, rv (me)), (1, .int (i32 (fu))), (2, .int (i32 (op)))] 0 = some (rv (me)))
  have g2 : jGet L0 1 = some (.int (i32 (fu))) := eL0 ▸ (rfl : jGet [(0, rv (me)), (1, .int (i32 (fu))), (2, .int (i32 (op)))] 1 = some (.int (i32 (fu))))
  have g3 : jGet L0 2 = some (.int (i32 (op))) := eL0 ▸ (rfl : jGet [(0, rv (me)), (1, .int (i32 (fu))), (2, .int (i32 (op)))] 2 = some (.int (i32 (op))))
  clear eL0
  refine jx_ld (pc_q := 1) (l_q := L0) (st_q := [rv (me)]) rfl (jl_rvn g1) ?_
  refine cx_gi (pc_q := 4) (c := 1) (q := 7) (v := F (me) (7 : Int)) rfl rfl (by decide) (by decide) (Or.inl rfl) rfl o_me t_me rfl ?_
  have b4 : (0 : Int) ≤ F (me) (7 : Int) ∧ F (me) (7 : Int) ≤ 6000 := by have z := HC_i (c := 1) (q := 7) hC o_me t_me (by decide) rfl; rw [show F (me) ((7 : Nat) : Int) = F (me) (7 : Int) from rfl] at z; exact z
  refine jx_ar (pc_q := 7) (st_q := [.int (i32 (6000)), .int (i32 (F (me) (7 : Int)))]) rfl rfl rfl rfl ?_
  refine jx_icmp_lt (pc_q := 10) (tg := 16) rfl rfl rfl (by omega) (by omega) (by decide) (by decide) (fun h5 => ?_) (fun h5 => ?_)
  · have _q := h5
    refine jx_ld (pc_q := 17) (l_q := L0) (st_q := [rv (me)]) rfl (jl_rvn g1) ?_
    refine cx_gr (pc_q := 20) (c := 1) (q := 0) (v := F (me) (0 : Int)) rfl rfl (by decide) (by decide) rfl rfl o_me t_me rfl ?_
    have y6 : own m (F (me) (0 : Int)) ∧ tg (F (me) (0 : Int)) = 20 ∧ ((6000 : Int) ≠ 0 → ln (F (me) (0 : Int)) = 6000) := by have z := HC_n (c := 1) (q := 0) hC o_me t_me (own_z o_me) (by decide) rfl; rw [show F (me) ((0 : Nat) : Int) = F (me) (0 : Int) from rfl] at z; exact ⟨z.1, z.2.1, z.2.2.1⟩
    have ly6 : ln (F (me) (0 : Int)) = 6000 := y6.2.2 (by decide)
    refine jx_ld (pc_q := 21) (l_q := L0) (st_q := [rv (me), rv (F (me) (0 : Int))]) rfl (jl_rvn g1) ?_
    refine cx_gi (pc_q := 24) (c := 1) (q := 7) (v := F (me) (7 : Int)) rfl rfl (by decide) (by decide) (Or.inl rfl) rfl o_me t_me rfl ?_
    refine jx_ld (pc_q := 25) (l_q := L0) (st_q := [.int (i32 (fu)), .int (i32 (F (me) (7 : Int))), rv (F (me) (0 : Int))]) rfl (jl_iloadn g2) ?_
    refine cx_i2b (pc_q := 26) rfl rfl (fun r7 hr7 kr7 => ?_)
    have b8 := HC_l hC y6.1 y6.2.1 (by decide)
    refine cx_bas2 (pc_q := 27) (z := F (me) (7 : Int)) (y := r7) rfl rfl y6.1 y6.2.1 (by omega) (by omega) (by omega) (fun w9 hw9 kw9 => ?_)
    have qw9 : w9 = r7 := kw9 (by omega) (by omega)
    obtain ⟨F10, eF10⟩ : ∃ q, q = uF F (F (me) (0 : Int)) (F (me) (7 : Int)) (w9) := ⟨_, rfl⟩
    rw [← eF10]
    have hC11 : HC 0 m tg ln F10 := by rw [eF10]; exact HC_pi hC y6.1 y6.2.1 (by decide) (by omega) (by rw [(show F (F (me) (0 : Int)) (-1) = 0 by have z := HC_n (c := 1) (q := 0) hC o_me t_me (own_z o_me) (by decide) rfl; rw [show F (me) ((0 : Nat) : Int) = F (me) (0 : Int) from rfl] at z; exact z.2.2.2 (by decide))]; exact ⟨(by show (-2147483648 : Int) ≤ _; omega), (by show _ ≤ (2147483647 : Int); omega)⟩)
    have hM12 : Fq 0 [(2, 7), (2, 11), (20, -5), (21, -5)] m tg F F10 := by rw [eF10]; exact Fq_p hM0 y6.2.1 (fun _ => rfl) (inL_a rfl (by omega) rfl)
    refine jx_ld (pc_q := 28) (l_q := L0) (st_q := [rv (me)]) rfl (jl_rvn g1) ?_
    refine cx_gr (pc_q := 31) (c := 1) (q := 1) (v := F (me) (1 : Int)) rfl rfl (by decide) (by decide) rfl rfl o_me t_me (show F10 (me) (1 : Int) = F (me) (1 : Int) from by rw [eF10]; exact uF_a (fun w => by have q1 := t_me; have q2 := y6.2.1; rw [w, q2] at q1; exact absurd q1 (by decide))) ?_
    have y13 : own m (F (me) (1 : Int)) ∧ tg (F (me) (1 : Int)) = 21 ∧ ((6000 : Int) ≠ 0 → ln (F (me) (1 : Int)) = 6000) := by have z := HC_n (c := 1) (q := 1) hC11 o_me t_me (own_z o_me) (by decide) rfl; rw [show F10 (me) ((1 : Nat) : Int) = F (me) (1 : Int) from (show F10 (me) (1 : Int) = F (me) (1 : Int) from by rw [eF10]; exact uF_a (fun w => by have q1 := t_me; have q2 := y6.2.1; rw [w, q2] at q1; exact absurd q1 (by decide)))] at z; exact ⟨z.1, z.2.1, z.2.2.1⟩
    have ly13 : ln (F (me) (1 : Int)) = 6000 := y13.2.2 (by decide)
    refine jx_ld (pc_q := 32) (l_q := L0) (st_q := [rv (me), rv (F (me) (1 : Int))]) rfl (jl_rvn g1) ?_
    refine cx_gi (pc_q := 35) (c := 1) (q := 7) (v := F (me) (7 : Int)) rfl rfl (by decide) (by decide) (Or.inl rfl) rfl o_me t_me (show F10 (me) (7 : Int) = F (me) (7 : Int) from by rw [eF10]; exact uF_a (fun w => by have q1 := t_me; have q2 := y6.2.1; rw [w, q2] at q1; exact absurd q1 (by decide))) ?_
    refine jx_ld (pc_q := 36) (l_q := L0) (st_q := [.int (i32 (op)), .int (i32 (F (me) (7 : Int))), rv (F (me) (1 : Int))]) rfl (jl_iloadn g3) ?_
    have b14 := HC_l hC11 y13.1 y13.2.1 (by decide)
    refine cx_ias (pc_q := 37) (z := F (me) (7 : Int)) (y := op) rfl rfl y13.1 y13.2.1 (by omega) (by omega) (by omega) ?_
    obtain ⟨F15, eF15⟩ : ∃ q, q = uF F10 (F (me) (1 : Int)) (F (me) (7 : Int)) (op) := ⟨_, rfl⟩
    rw [← eF15]
    have hC16 : HC 0 m tg ln F15 := by rw [eF15]; exact HC_pi hC11 y13.1 y13.2.1 (by decide) (by omega) (by rw [(show F10 (F (me) (1 : Int)) (-1) = 0 by have z := HC_n (c := 1) (q := 1) hC11 o_me t_me (own_z o_me) (by decide) rfl; rw [show F10 (me) ((1 : Nat) : Int) = F (me) (1 : Int) from (show F10 (me) (1 : Int) = F (me) (1 : Int) from by rw [eF10]; exact uF_a (fun w => by have q1 := t_me; have q2 := y6.2.1; rw [w, q2] at q1; exact absurd q1 (by decide)))] at z; exact z.2.2.2 (by decide))]; exact ⟨(by show (-2147483648 : Int) ≤ _; omega), (by show _ ≤ (2147483647 : Int); omega)⟩)
    have hM17 : Fq 0 [(2, 7), (2, 11), (20, -5), (21, -5)] m tg F F15 := by rw [eF15]; exact Fq_p hM12 y13.2.1 (fun _ => rfl) (inL_a rfl (by omega) rfl)
    refine jx_ld (pc_q := 38) (l_q := L0) (st_q := [rv (me)]) rfl (jl_rvn g1) ?_
    refine cx_gr (pc_q := 41) (c := 1) (q := 2) (v := F (me) (2 : Int)) rfl rfl (by decide) (by decide) rfl rfl o_me t_me ((show F15 (me) (2 : Int) = F10 (me) (2 : Int) from by rw [eF15]; exact uF_a (fun w => by have q1 := t_me; have q2 := y13.2.1; rw [w, q2] at q1; exact absurd q1 (by decide))).trans (show F10 (me) (2 : Int) = F (me) (2 : Int) from by rw [eF10]; exact uF_a (fun w => by have q1 := t_me; have q2 := y6.2.1; rw [w, q2] at q1; exact absurd q1 (by decide)))) ?_
    have y18 : own m (F (me) (2 : Int)) ∧ tg (F (me) (2 : Int)) = 21 ∧ ((6000 : Int) ≠ 0 → ln (F (me) (2 : Int)) = 6000) := by have z := HC_n (c := 1) (q := 2) hC16 o_me t_me (own_z o_me) (by decide) rfl; rw [show F15 (me) ((2 : Nat) : Int) = F (me) (2 : Int) from ((show F15 (me) (2 : Int) = F10 (me) (2 : Int) from by rw [eF15]; exact uF_a (fun w => by have q1 := t_me; have q2 := y13.2.1; rw [w, q2] at q1; exact absurd q1 (by decide))).trans (show F10 (me) (2 : Int) = F (me) (2 : Int) from by rw [eF10]; exact uF_a (fun w => by have q1 := t_me; have q2 := y6.2.1; rw [w, q2] at q1; exact absurd q1 (by decide))))] at z; exact ⟨z.1, z.2.1, z.2.2.1⟩
    have ly18 : ln (F (me) (2 : Int)) = 6000 := y18.2.2 (by decide)
    refine jx_ld (pc_q := 42) (l_q := L0) (st_q := [rv (me), rv (F (me) (2 : Int))]) rfl (jl_rvn g1) ?_
    refine cx_gi (pc_q := 45) (c := 1) (q := 7) (v := F (me) (7 : Int)) rfl rfl (by decide) (by decide) (Or.inl rfl) rfl o_me t_me ((show F15 (me) (7 : Int) = F10 (me) (7 : Int) from by rw [eF15]; exact uF_a (fun w => by have q1 := t_me; have q2 := y13.2.1; rw [w, q2] at q1; exact absurd q1 (by decide))).trans (show F10 (me) (7 : Int) = F (me) (7 : Int) from by rw [eF10]; exact uF_a (fun w => by have q1 := t_me; have q2 := y6.2.1; rw [w, q2] at q1; exact absurd q1 (by decide)))) ?_
    refine jx_ar (pc_q := 46) (st_q := [.int (i32 (-1)), .int (i32 (F (me) (7 : Int))), rv (F (me) (2 : Int))]) rfl rfl rfl rfl ?_
    have b19 := HC_l hC16 y18.1 y18.2.1 (by decide)
    refine cx_ias (pc_q := 47) (z := F (me) (7 : Int)) (y := -1) rfl rfl y18.1 y18.2.1 (by omega) (by omega) (by omega) ?_
    obtain ⟨F20, eF20⟩ : ∃ q, q = uF F15 (F (me) (2 : Int)) (F (me) (7 : Int)) (-1) := ⟨_, rfl⟩
    rw [← eF20]
    have hC21 : HC 0 m tg ln F20 := by rw [eF20]; exact HC_pi hC16 y18.1 y18.2.1 (by decide) (by omega) (by rw [(show F15 (F (me) (2 : Int)) (-1) = 0 by have z := HC_n (c := 1) (q := 2) hC16 o_me t_me (own_z o_me) (by decide) rfl; rw [show F15 (me) ((2 : Nat) : Int) = F (me) (2 : Int) from ((show F15 (me) (2 : Int) = F10 (me) (2 : Int) from by rw [eF15]; exact uF_a (fun w => by have q1 := t_me; have q2 := y13.2.1; rw [w, q2] at q1; exact absurd q1 (by decide))).trans (show F10 (me) (2 : Int) = F (me) (2 : Int) from by rw [eF10]; exact uF_a (fun w => by have q1 := t_me; have q2 := y6.2.1; rw [w, q2] at q1; exact absurd q1 (by decide))))] at z; exact z.2.2.2 (by decide))]; exact ⟨(by show (-2147483648 : Int) ≤ _; omega), (by show _ ≤ (2147483647 : Int); omega)⟩)
    have hM22 : Fq 0 [(2, 7), (2, 11), (20, -5), (21, -5)] m tg F F20 := by rw [eF20]; exact Fq_p hM17 y18.2.1 (fun _ => rfl) (inL_a rfl (by omega) rfl)
    refine jx_ld (pc_q := 48) (l_q := L0) (st_q := [rv (me)]) rfl (jl_rvn g1) ?_
    refine jx_ar (pc_q := 49) (st_q := [rv (me), rv (me)]) rfl rfl ja_dup rfl ?_
    refine cx_gi (pc_q := 52) (c := 1) (q := 7) (v := F (me) (7 : Int)) rfl rfl (by decide) (by decide) (Or.inl rfl) rfl o_me t_me ((show F20 (me) (7 : Int) = F15 (me) (7 : Int) from by rw [eF20]; exact uF_a (fun w => by have q1 := t_me; have q2 := y18.2.1; rw [w, q2] at q1; exact absurd q1 (by decide))).trans ((show F15 (me) (7 : Int) = F10 (me) (7 : Int) from by rw [eF15]; exact uF_a (fun w => by have q1 := t_me; have q2 := y13.2.1; rw [w, q2] at q1; exact absurd q1 (by decide))).trans (show F10 (me) (7 : Int) = F (me) (7 : Int) from by rw [eF10]; exact uF_a (fun w => by have q1 := t_me; have q2 := y6.2.1; rw [w, q2] at q1; exact absurd q1 (by decide))))) ?_
    refine jx_ar (pc_q := 53) (st_q := [.int (i32 (1)), .int (i32 (F (me) (7 : Int))), rv (me)]) rfl rfl rfl rfl ?_
    refine jx_add (pc_q := 54) rfl rfl ?_
    refine cx_pi (pc_q := 57) (c := 1) (q := 7) (qi := (7 : Int)) (z := (F (me) (7 : Int) + 1)) rfl rfl (by decide) (by decide) rfl rfl rfl (by decide) rfl o_me t_me rfl ?_
    obtain ⟨F23, eF23⟩ : ∃ q, q = uF F20 (me) (7 : Int) ((F (me) (7 : Int) + 1)) := ⟨_, rfl⟩
    rw [← eF23]
    have hC24 : HC 0 m tg ln F23 := by rw [eF23]; exact HC_fi (c := 1) (q := 7) hC21 t_me (by decide) rfl (by omega) (by omega) ⟨fun w => absurd w (by decide), fun w => absurd w (by decide)⟩
    have hM25 : Fq 0 [(2, 7), (2, 11), (20, -5), (21, -5)] m tg F F23 := by rw [eF23]; exact Fq_p hM22 t_me (fun _ => rfl) rfl
    refine jx_rt (v := none) rfl rfl rfl rfl rfl rfl ?_
    exact ⟨F23, rfl, rfl, hC24, hM25, trivial⟩
  · have _q := h5
    refine jx_ld (pc_q := 11) (l_q := L0) (st_q := [rv (me)]) rfl (jl_rvn g1) ?_
    refine jx_ar (pc_q := 12) (st_q := [.int (i32 (1)), rv (me)]) rfl rfl rfl rfl ?_
    refine cx_pb (pc_q := 15) (c := 1) (q := 11) (qi := (11 : Int)) (z := 1) rfl rfl (by decide) (by decide) rfl rfl rfl (by decide) (by omega) rfl o_me t_me rfl ?_
    obtain ⟨F26, eF26⟩ : ∃ q, q = uF F (me) (11 : Int) (1) := ⟨_, rfl⟩
    rw [← eF26]
    have hC27 : HC 0 m tg ln F26 := by rw [eF26]; exact HC_fi (c := 1) (q := 11) hC t_me (by decide) rfl (by omega) (by omega) ⟨fun w => absurd w (by decide), fun w => absurd w (by decide)⟩
    have hM28 : Fq 0 [(2, 7), (2, 11), (20, -5), (21, -5)] m tg F F26 := by rw [eF26]; exact Fq_p hM0 t_me (fun _ => rfl) rfl
    refine jx_rt (v := none) rfl rfl rfl rfl rfl rfl ?_
    exact ⟨F26, rfl, rfl, hC27, hM28, trivial⟩
set_option maxRecDepth 20000 in
set_option maxHeartbeats 4000000 in
theorem k_LCoder_operation {X : jX} {dd : Nat} {R : Nat → jC} {m : Nat} {tg ln : Int → Int} {F : Int → Int → Int} {me op : Int} (hd : 2 ≤ dd) (hC : HC 0 m tg ln F) (o_me : own m me) (t_me : tg me = 2) (h_op : (-2147483648 : Int) ≤ op ∧ op ≤ 2147483647) : wk X dd 47 [rv me, .int (i32 op)] (cV R m tg ln F) (fun o V_q => ∃ (F_q : Int → Int → Int), V_q = cV R m tg ln F_q ∧ o = .inl none ∧ HC 0 m tg ln F_q ∧ Fq 0 [(2, 7), (2, 11), (20, -5), (21, -5)] m tg F F_q ∧ True) := by
  obtain ⟨d, rfl⟩ : ∃ d, dd = d + 1 := ⟨dd - 1, by omega⟩
  refine wk_of (e := jm47) rfl (by rw [jS_r, jS_i, jS_0]; exact Nat.le_of_ble_eq_true rfl) ?_
  rw [la_r, la_i, la_0]
  show wj X d jm47 (0, [(0, rv (me)), (1, .int (i32 (op)))], [], cV R m tg ln F) _
  have hM0 : Fq 0 [(2, 7), (2, 11), (20, -5), (21, -5)] m tg F F := Fq_r
  obtain ⟨L0, eL0⟩ : ∃ q : jL, q = [(0, rv (me)), (1, .int (i32 (op)))] := ⟨_, rfl⟩
  rw [← eL0]
  have g1 : jGet L0 0 = some (rv (me)) := eL0 ▸ (rfl : jGet [(0, rv (me)), (1, .int (i32 (op)))] 0 = some (rv (me)))
  have g2 : jGet L0 1 = some (.int (i32 (op))) := eL0 ▸ (rfl : jGet [(0, rv (me)), (1, .int (i32 (op)))] 1 = some (.int (i32 (op))))
  clear eL0
  refine jx_ld (pc_q := 1) (l_q := L0) (st_q := [rv (me)]) rfl (jl_rvn g1) ?_
  refine jx_ar (pc_q := 3) (st_q := [.int (i32 (15)), rv (me)]) rfl rfl rfl rfl ?_
  refine jx_ld (pc_q := 4) (l_q := L0) (st_q := [.int (i32 (op)), .int (i32 (15)), rv (me)]) rfl (jl_iloadn g2) ?_
  refine cx_vi (c := 1) (a := me) (st := []) (as := [.int (i32 (15)), .int (i32 (op))]) rfl rfl rfl o_me t_me (by decide) rfl ⟨rfl, rfl, (Nat.le_of_ble_eq_true rfl)⟩ rfl (k_LCoder_emit (dd := d) (R := R) (m := m) (tg := tg) (ln := ln) (F := F) (me := me) (fu := 15) (op := op) (hd := by omega) (hC := hC) (o_me := o_me) (t_me := t_me) (h_fu := by omega) (h_op := by omega)) (fun o V_q hq => ?_)
  obtain ⟨F3, rfl, rfl, hC4, hM5, -⟩ := hq
  have hM6 : Fq 0 [(2, 7), (2, 11), (20, -5), (21, -5)] m tg F F3 := Fq_t (ln := ln) (ln1 := ln) hM0 Ex_r hM5 (by decide) (Or.inl rfl)
  refine Or.inl ⟨rfl, ?_⟩
  refine jx_rt (v := none) rfl rfl rfl rfl rfl rfl ?_
  exact ⟨F3, rfl, rfl, hC4, hM6, trivial⟩
set_option maxRecDepth 20000 in
set_option maxHeartbeats 4000000 in
theorem k_LCoder_way {X : jX} {dd : Nat} {R : Nat → jC} {m : Nat} {tg ln : Int → Int} {F : Int → Int → Int} {me fu lb og : Int} (hd : 2 ≤ dd) (hC : HC 0 m tg ln F) (o_me : own m me) (t_me : tg me = 2) (h_fu : (-2147483648 : Int) ≤ fu ∧ fu ≤ 2147483647) (h_lb : (-2147483648 : Int) ≤ lb ∧ lb ≤ 2147483647) (h_og : (-2147483648 : Int) ≤ og ∧ og ≤ 2147483647) : wk X dd 48 [rv me, .int (i32 fu), .int (i32 lb), .int (i32 og)] (cV R m tg ln F) (fun o V_q => ∃ (F_q : Int → Int → Int), V_q = cV R m tg ln F_q ∧ o = .inl none ∧ HC 0 m tg ln F_q ∧ Fq 0 [(2, 7), (2, 11), (20, -5), (21, -5)] m tg F F_q ∧ True) := by
  obtain ⟨d, rfl⟩ : ∃ d, dd = d + 1 := ⟨dd - 1, by omega⟩
  refine wk_of (e := jm48) rfl (by rw [jS_r, jS_i, jS_i, jS_i, jS_0]; exact Nat.le_of_ble_eq_true rfl) ?_
  rw [la_r, la_i, la_i, la_i, la_0]
  show wj X d jm48 (0, [(0, rv (me)), (1, .int (i32 (fu))), (2, .int (i32 (lb))), (3, .int (i32 (og)))], [], cV R m tg ln F) _
  have hM0 : Fq 0 [(2, 7), (2, 11), (20, -5), (21, -5)] m tg F F := Fq_r
  obtain ⟨L0, eL0⟩ : ∃ q : jL, q = [(0, rv (me)), (1, .int (i32 (fu))), (2, .int (i32 (lb))), (3, .int (i32 (og)))] := ⟨_, rfl⟩
  rw [← eL0]
  have g1 : jGet L0 0 = some (rv (me)) := eL0 ▸ (rfl : jGet [(0, rv (me)), (1, .int (i32 (fu))), (2, .int (i32 (lb))), (3, .int (i32 (og)))] 0 = some (rv (me)))
  have g2 : jGet L0 1 = some (.int (i32 (fu))) := eL0 ▸ (rfl : jGet [(0, rv (me)), (1, .int (i32 (fu))), (2, .int (i32 (lb))), (3, .int (i32 (og)))] 1 = some (.int (i32 (fu))))
  have g3 : jGet L0 2 = some (.int (i32 (lb))) := eL0 ▸ (rfl : jGet [(0, rv (me)), (1, .int (i32 (fu))), (2, .int (i32 (lb))), (3, .int (i32 (og)))] 2 = some (.int (i32 (lb))))
  have g4 : jGet L0 3 = some (.int (i32 (og))) := eL0 ▸ (rfl : jGet [(0, rv (me)), (1, .int (i32 (fu))), (2, .int (i32 (lb))), (3, .int (i32 (og)))] 3 = some (.int (i32 (og))))
  clear eL0
  refine jx_ld (pc_q := 1) (l_q := L0) (st_q := [rv (me)]) rfl (jl_rvn g1) ?_
  refine cx_gi (pc_q := 4) (c := 1) (q := 7) (v := F (me) (7 : Int)) rfl rfl (by decide) (by decide) (Or.inl rfl) rfl o_me t_me rfl ?_
  have b5 : (0 : Int) ≤ F (me) (7 : Int) ∧ F (me) (7 : Int) ≤ 6000 := by have z := HC_i (c := 1) (q := 7) hC o_me t_me (by decide) rfl; rw [show F (me) ((7 : Nat) : Int) = F (me) (7 : Int) from rfl] at z; exact z
  refine jx_ld (pc_q := 6) (l_q := jSto1 L0 4 (.int (i32 (F (me) (7 : Int))))) (st_q := []) rfl rfl ?_
  obtain ⟨L6, eL6⟩ : ∃ q : jL, q = jSto1 L0 4 (.int (i32 (F (me) (7 : Int)))) := ⟨_, rfl⟩
  rw [← eL6]
  have g7 : jGet L6 0 = some (rv (me)) := eL6 ▸ jg_nr (by decide) g1
  have g8 : jGet L6 1 = some (.int (i32 (fu))) := eL6 ▸ jg_ne (by decide) g2 rfl
  have g9 : jGet L6 2 = some (.int (i32 (lb))) := eL6 ▸ jg_ne (by decide) g3 rfl
  have g10 : jGet L6 3 = some (.int (i32 (og))) := eL6 ▸ jg_ne (by decide) g4 rfl
  have g11 : jGet L6 4 = some (.int (i32 (F (me) (7 : Int)))) := eL6 ▸ jg_eq
  clear eL6
  refine jx_ld (pc_q := 7) (l_q := L6) (st_q := [rv (me)]) rfl (jl_rvn g7) ?_
  refine jx_ld (pc_q := 8) (l_q := L6) (st_q := [.int (i32 (fu)), rv (me)]) rfl (jl_iloadn g8) ?_
  refine jx_ar (pc_q := 9) (st_q := [.int (i32 (0)), .int (i32 (fu)), rv (me)]) rfl rfl rfl rfl ?_
  refine cx_vi (c := 1) (a := me) (st := []) (as := [.int (i32 (fu)), .int (i32 (0))]) rfl rfl rfl o_me t_me (by decide) rfl ⟨rfl, rfl, (Nat.le_of_ble_eq_true rfl)⟩ rfl (k_LCoder_emit (dd := d) (R := R) (m := m) (tg := tg) (ln := ln) (F := F) (me := me) (fu := fu) (op := 0) (hd := by omega) (hC := hC) (o_me := o_me) (t_me := t_me) (h_fu := by omega) (h_op := by omega)) (fun o V_q hq => ?_)
  obtain ⟨F12, rfl, rfl, hC13, hM14, -⟩ := hq
  have hM15 : Fq 0 [(2, 7), (2, 11), (20, -5), (21, -5)] m tg F F12 := Fq_t (ln := ln) (ln1 := ln) hM0 Ex_r hM14 (by decide) (Or.inl rfl)
  refine Or.inl ⟨rfl, ?_⟩
  refine jx_ld (pc_q := 14) (l_q := L6) (st_q := [.int (i32 (F (me) (7 : Int)))]) rfl (jl_iload g11) ?_
  refine jx_ld (pc_q := 15) (l_q := L6) (st_q := [rv (me), .int (i32 (F (me) (7 : Int)))]) rfl (jl_rvn g7) ?_
  refine cx_gi (pc_q := 18) (c := 1) (q := 7) (v := F12 (me) (7 : Int)) rfl rfl (by decide) (by decide) (Or.inl rfl) rfl o_me t_me rfl ?_
  have b16 : (0 : Int) ≤ F12 (me) (7 : Int) ∧ F12 (me) (7 : Int) ≤ 6000 := by have z := HC_i (c := 1) (q := 7) hC13 o_me t_me (by decide) rfl; rw [show F12 (me) ((7 : Nat) : Int) = F12 (me) (7 : Int) from rfl] at z; exact z
  refine jx_icmp_ge (pc_q := 21) (tg := 37) rfl rfl rfl (by omega) (by omega) (by omega) (by omega) (fun h17 => ?_) (fun h17 => ?_)
  · have _q := h17
    refine jx_rt (v := none) rfl rfl rfl rfl rfl rfl ?_
    exact ⟨F12, rfl, rfl, hC13, hM15, trivial⟩
  · have _q := h17
    refine jx_ld (pc_q := 22) (l_q := L6) (st_q := [rv (me)]) rfl (jl_rvn g7) ?_
    refine cx_gr (pc_q := 25) (c := 1) (q := 2) (v := F (me) (2 : Int)) rfl rfl (by decide) (by decide) rfl rfl o_me t_me (show F12 (me) (2 : Int) = F (me) (2 : Int) from hM14 _ _ o_me (own_z o_me) (by rw [t_me]; rfl)) ?_
    have y18 : own m (F (me) (2 : Int)) ∧ tg (F (me) (2 : Int)) = 21 ∧ ((6000 : Int) ≠ 0 → ln (F (me) (2 : Int)) = 6000) := by have z := HC_n (c := 1) (q := 2) hC13 o_me t_me (own_z o_me) (by decide) rfl; rw [show F12 (me) ((2 : Nat) : Int) = F (me) (2 : Int) from (show F12 (me) (2 : Int) = F (me) (2 : Int) from hM14 _ _ o_me (own_z o_me) (by rw [t_me]; rfl))] at z; exact ⟨z.1, z.2.1, z.2.2.1⟩
    have ly18 : ln (F (me) (2 : Int)) = 6000 := y18.2.2 (by decide)
    refine jx_ld (pc_q := 27) (l_q := L6) (st_q := [.int (i32 (F (me) (7 : Int))), rv (F (me) (2 : Int))]) rfl (jl_iload g11) ?_
    refine jx_ld (pc_q := 28) (l_q := L6) (st_q := [.int (i32 (lb)), .int (i32 (F (me) (7 : Int))), rv (F (me) (2 : Int))]) rfl (jl_iloadn g9) ?_
    have b19 := HC_l hC13 y18.1 y18.2.1 (by decide)
    refine cx_ias (pc_q := 29) (z := F (me) (7 : Int)) (y := lb) rfl rfl y18.1 y18.2.1 (by omega) (by omega) (by omega) ?_
    obtain ⟨F20, eF20⟩ : ∃ q, q = uF F12 (F (me) (2 : Int)) (F (me) (7 : Int)) (lb) := ⟨_, rfl⟩
    rw [← eF20]
    have hC21 : HC 0 m tg ln F20 := by rw [eF20]; exact HC_pi hC13 y18.1 y18.2.1 (by decide) (by omega) (by rw [(show F12 (F (me) (2 : Int)) (-1) = 0 by have z := HC_n (c := 1) (q := 2) hC13 o_me t_me (own_z o_me) (by decide) rfl; rw [show F12 (me) ((2 : Nat) : Int) = F (me) (2 : Int) from (show F12 (me) (2 : Int) = F (me) (2 : Int) from hM14 _ _ o_me (own_z o_me) (by rw [t_me]; rfl))] at z; exact z.2.2.2 (by decide))]; exact ⟨(by show (-2147483648 : Int) ≤ _; omega), (by show _ ≤ (2147483647 : Int); omega)⟩)
    have hM22 : Fq 0 [(2, 7), (2, 11), (20, -5), (21, -5)] m tg F F20 := by rw [eF20]; exact Fq_p hM15 y18.2.1 (fun _ => rfl) (inL_a rfl (by omega) rfl)
    refine jx_ld (pc_q := 30) (l_q := L6) (st_q := [rv (me)]) rfl (jl_rvn g7) ?_
    refine cx_gr (pc_q := 33) (c := 1) (q := 3) (v := F (me) (3 : Int)) rfl rfl (by decide) (by decide) rfl rfl o_me t_me ((show F20 (me) (3 : Int) = F12 (me) (3 : Int) from by rw [eF20]; exact uF_a (fun w => by have q1 := t_me; have q2 := y18.2.1; rw [w, q2] at q1; exact absurd q1 (by decide))).trans (show F12 (me) (3 : Int) = F (me) (3 : Int) from hM14 _ _ o_me (own_z o_me) (by rw [t_me]; rfl))) ?_
    have y23 : own m (F (me) (3 : Int)) ∧ tg (F (me) (3 : Int)) = 21 ∧ ((6000 : Int) ≠ 0 → ln (F (me) (3 : Int)) = 6000) := by have z := HC_n (c := 1) (q := 3) hC21 o_me t_me (own_z o_me) (by decide) rfl; rw [show F20 (me) ((3 : Nat) : Int) = F (me) (3 : Int) from ((show F20 (me) (3 : Int) = F12 (me) (3 : Int) from by rw [eF20]; exact uF_a (fun w => by have q1 := t_me; have q2 := y18.2.1; rw [w, q2] at q1; exact absurd q1 (by decide))).trans (show F12 (me) (3 : Int) = F (me) (3 : Int) from hM14 _ _ o_me (own_z o_me) (by rw [t_me]; rfl)))] at z; exact ⟨z.1, z.2.1, z.2.2.1⟩
    have ly23 : ln (F (me) (3 : Int)) = 6000 := y23.2.2 (by decide)
    refine jx_ld (pc_q := 35) (l_q := L6) (st_q := [.int (i32 (F (me) (7 : Int))), rv (F (me) (3 : Int))]) rfl (jl_iload g11) ?_
    refine jx_ld (pc_q := 36) (l_q := L6) (st_q := [.int (i32 (og)), .int (i32 (F (me) (7 : Int))), rv (F (me) (3 : Int))]) rfl (jl_iloadn g10) ?_
    have b24 := HC_l hC21 y23.1 y23.2.1 (by decide)
    refine cx_ias (pc_q := 37) (z := F (me) (7 : Int)) (y := og) rfl rfl y23.1 y23.2.1 (by omega) (by omega) (by omega) ?_
    obtain ⟨F25, eF25⟩ : ∃ q, q = uF F20 (F (me) (3 : Int)) (F (me) (7 : Int)) (og) := ⟨_, rfl⟩
    rw [← eF25]
    have hC26 : HC 0 m tg ln F25 := by rw [eF25]; exact HC_pi hC21 y23.1 y23.2.1 (by decide) (by omega) (by rw [(show F20 (F (me) (3 : Int)) (-1) = 0 by have z := HC_n (c := 1) (q := 3) hC21 o_me t_me (own_z o_me) (by decide) rfl; rw [show F20 (me) ((3 : Nat) : Int) = F (me) (3 : Int) from ((show F20 (me) (3 : Int) = F12 (me) (3 : Int) from by rw [eF20]; exact uF_a (fun w => by have q1 := t_me; have q2 := y18.2.1; rw [w, q2] at q1; exact absurd q1 (by decide))).trans (show F12 (me) (3 : Int) = F (me) (3 : Int) from hM14 _ _ o_me (own_z o_me) (by rw [t_me]; rfl)))] at z; exact z.2.2.2 (by decide))]; exact ⟨(by show (-2147483648 : Int) ≤ _; omega), (by show _ ≤ (2147483647 : Int); omega)⟩)
    have hM27 : Fq 0 [(2, 7), (2, 11), (20, -5), (21, -5)] m tg F F25 := by rw [eF25]; exact Fq_p hM22 y23.2.1 (fun _ => rfl) (inL_a rfl (by omega) rfl)
    refine jx_rt (v := none) rfl rfl rfl rfl rfl rfl ?_
    exact ⟨F25, rfl, rfl, hC26, hM27, trivial⟩
set_option maxRecDepth 20000 in
set_option maxHeartbeats 4000000 in
theorem k_LCoder_newLabel {X : jX} {dd : Nat} {R : Nat → jC} {m : Nat} {tg ln : Int → Int} {F : Int → Int → Int} {me : Int} (hd : 1 ≤ dd) (hC : HC 0 m tg ln F) (o_me : own m me) (t_me : tg me = 2) : wk X dd 49 [rv me] (cV R m tg ln F) (fun o V_q => ∃ (F_q : Int → Int → Int) (r : Int), V_q = cV R m tg ln F_q ∧ o = .inl (some (.int (i32 r))) ∧ HC 0 m tg ln F_q ∧ Fq 0 [(2, 8), (2, 11), (21, -5)] m tg F F_q ∧ (-2147483648 ≤ r ∧ r ≤ 2147483647) ∧ True) := by
  obtain ⟨d, rfl⟩ : ∃ d, dd = d + 1 := ⟨dd - 1, by omega⟩
  refine wk_of (e := jm49) rfl (by rw [jS_r, jS_0]; exact Nat.le_of_ble_eq_true rfl) ?_
  rw [la_r, la_0]
  show wj X d jm49 (0, [(0, rv (me))], [], cV R m tg ln F) _
  have hM0 : Fq 0 [(2, 8), (2, 11), (21, -5)] m tg F F := Fq_r
  obtain ⟨L0, eL0⟩ : ∃ q : jL, q = [(0, rv (me))] := ⟨_, rfl⟩
  rw [← eL0]
  have g1 : jGet L0 0 = some (rv (me)) := eL0 ▸ (rfl : jGet [(0, rv (me))] 0 = some (rv (me)))
  clear eL0
  refine jx_ld (pc_q := 1) (l_q := L0) (st_q := [rv (me)]) rfl (jl_rvn g1) ?_
  refine cx_gi (pc_q := 4) (c := 1) (q := 8) (v := F (me) (8 : Int)) rfl rfl (by decide) (by decide) (Or.inl rfl) rfl o_me t_me rfl ?_
  have b2 : (0 : Int) ≤ F (me) (8 : Int) ∧ F (me) (8 : Int) ≤ 6000 := by have z := HC_i (c := 1) (q := 8) hC o_me t_me (by decide) rfl; rw [show F (me) ((8 : Nat) : Int) = F (me) (8 : Int) from rfl] at z; exact z
  refine jx_ld (pc_q := 5) (l_q := L0) (st_q := [rv (me), .int (i32 (F (me) (8 : Int)))]) rfl (jl_rvn g1) ?_
  refine cx_gr (pc_q := 8) (c := 1) (q := 6) (v := F (me) (6 : Int)) rfl rfl (by decide) (by decide) rfl rfl o_me t_me rfl ?_
  have y3 : own m (F (me) (6 : Int)) ∧ tg (F (me) (6 : Int)) = 21 ∧ ((6000 : Int) ≠ 0 → ln (F (me) (6 : Int)) = 6000) := by have z := HC_n (c := 1) (q := 6) hC o_me t_me (own_z o_me) (by decide) rfl; rw [show F (me) ((6 : Nat) : Int) = F (me) (6 : Int) from rfl] at z; exact ⟨z.1, z.2.1, z.2.2.1⟩
  have ly3 : ln (F (me) (6 : Int)) = 6000 := y3.2.2 (by decide)
  have b4 := HC_l hC y3.1 y3.2.1 (by decide)
  refine cx_len (pc_q := 9) rfl rfl y3.1 (by rw [y3.2.1]; decide) (by omega) ?_
  refine jx_icmp_lt (pc_q := 12) (tg := 19) rfl rfl rfl (by omega) (by omega) (by omega) (by omega) (fun h5 => ?_) (fun h5 => ?_)
  · have _q := h5
    refine jx_ld (pc_q := 20) (l_q := L0) (st_q := [rv (me)]) rfl (jl_rvn g1) ?_
    refine cx_gr (pc_q := 23) (c := 1) (q := 6) (v := F (me) (6 : Int)) rfl rfl (by decide) (by decide) rfl rfl o_me t_me rfl ?_
    refine jx_ld (pc_q := 24) (l_q := L0) (st_q := [rv (me), rv (F (me) (6 : Int))]) rfl (jl_rvn g1) ?_
    refine cx_gi (pc_q := 27) (c := 1) (q := 8) (v := F (me) (8 : Int)) rfl rfl (by decide) (by decide) (Or.inl rfl) rfl o_me t_me rfl ?_
    refine jx_ar (pc_q := 28) (st_q := [.int (i32 (0)), .int (i32 (F (me) (8 : Int))), rv (F (me) (6 : Int))]) rfl rfl rfl rfl ?_
    refine cx_ias (pc_q := 29) (z := F (me) (8 : Int)) (y := 0) rfl rfl y3.1 y3.2.1 (by omega) (by omega) (by omega) ?_
    obtain ⟨F6, eF6⟩ : ∃ q, q = uF F (F (me) (6 : Int)) (F (me) (8 : Int)) (0) := ⟨_, rfl⟩
    rw [← eF6]
    have hC7 : HC 0 m tg ln F6 := by rw [eF6]; exact HC_pi hC y3.1 y3.2.1 (by decide) (by omega) (by rw [(show F (F (me) (6 : Int)) (-1) = 0 by have z := HC_n (c := 1) (q := 6) hC o_me t_me (own_z o_me) (by decide) rfl; rw [show F (me) ((6 : Nat) : Int) = F (me) (6 : Int) from rfl] at z; exact z.2.2.2 (by decide))]; exact ⟨(by show (-2147483648 : Int) ≤ _; omega), (by show _ ≤ (2147483647 : Int); omega)⟩)
    have hM8 : Fq 0 [(2, 8), (2, 11), (21, -5)] m tg F F6 := by rw [eF6]; exact Fq_p hM0 y3.2.1 (fun _ => rfl) (inL_a rfl (by omega) rfl)
    refine jx_ld (pc_q := 30) (l_q := L0) (st_q := [rv (me)]) rfl (jl_rvn g1) ?_
    refine jx_ar (pc_q := 31) (st_q := [rv (me), rv (me)]) rfl rfl ja_dup rfl ?_
    refine cx_gi (pc_q := 34) (c := 1) (q := 8) (v := F (me) (8 : Int)) rfl rfl (by decide) (by decide) (Or.inl rfl) rfl o_me t_me (show F6 (me) (8 : Int) = F (me) (8 : Int) from by rw [eF6]; exact uF_a (fun w => by have q1 := t_me; have q2 := y3.2.1; rw [w, q2] at q1; exact absurd q1 (by decide))) ?_
    refine jx_ar (pc_q := 35) (st_q := [.int (i32 (1)), .int (i32 (F (me) (8 : Int))), rv (me)]) rfl rfl rfl rfl ?_
    refine jx_add (pc_q := 36) rfl rfl ?_
    refine cx_pi (pc_q := 39) (c := 1) (q := 8) (qi := (8 : Int)) (z := (F (me) (8 : Int) + 1)) rfl rfl (by decide) (by decide) rfl rfl rfl (by decide) rfl o_me t_me rfl ?_
    obtain ⟨F9, eF9⟩ : ∃ q, q = uF F6 (me) (8 : Int) ((F (me) (8 : Int) + 1)) := ⟨_, rfl⟩
    rw [← eF9]
    have hC10 : HC 0 m tg ln F9 := by rw [eF9]; exact HC_fi (c := 1) (q := 8) hC7 t_me (by decide) rfl (by omega) (by omega) ⟨fun w => absurd w (by decide), fun w => absurd w (by decide)⟩
    have hM11 : Fq 0 [(2, 8), (2, 11), (21, -5)] m tg F F9 := by rw [eF9]; exact Fq_p hM8 t_me (fun _ => rfl) rfl
    refine jx_ld (pc_q := 40) (l_q := L0) (st_q := [rv (me)]) rfl (jl_rvn g1) ?_
    refine cx_gi (pc_q := 43) (c := 1) (q := 8) (v := (F (me) (8 : Int) + 1)) rfl rfl (by decide) (by decide) (Or.inl rfl) rfl o_me t_me (show F9 (me) (8 : Int) = (F (me) (8 : Int) + 1) from by rw [eF9]; exact uF_e) ?_
    refine jx_ar (pc_q := 44) (st_q := [.int (i32 (1)), .int (i32 ((F (me) (8 : Int) + 1)))]) rfl rfl rfl rfl ?_
    refine jx_sub (pc_q := 45) rfl rfl ?_
    refine jx_rt (v := some (.int (i32 (((F (me) (8 : Int) + 1) - 1))))) rfl rfl rfl rfl rfl rfl ?_
    exact ⟨F9, (((F (me) (8 : Int) + 1) - 1)), rfl, rfl, hC10, hM11, by omega, trivial⟩
  · have _q := h5
    refine jx_ld (pc_q := 13) (l_q := L0) (st_q := [rv (me)]) rfl (jl_rvn g1) ?_
    refine jx_ar (pc_q := 14) (st_q := [.int (i32 (1)), rv (me)]) rfl rfl rfl rfl ?_
    refine cx_pb (pc_q := 17) (c := 1) (q := 11) (qi := (11 : Int)) (z := 1) rfl rfl (by decide) (by decide) rfl rfl rfl (by decide) (by omega) rfl o_me t_me rfl ?_
    obtain ⟨F12, eF12⟩ : ∃ q, q = uF F (me) (11 : Int) (1) := ⟨_, rfl⟩
    rw [← eF12]
    have hC13 : HC 0 m tg ln F12 := by rw [eF12]; exact HC_fi (c := 1) (q := 11) hC t_me (by decide) rfl (by omega) (by omega) ⟨fun w => absurd w (by decide), fun w => absurd w (by decide)⟩
    have hM14 : Fq 0 [(2, 8), (2, 11), (21, -5)] m tg F F12 := by rw [eF12]; exact Fq_p hM0 t_me (fun _ => rfl) rfl
    refine jx_ar (pc_q := 18) (st_q := [.int (i32 (0))]) rfl rfl rfl rfl ?_
    refine jx_rt (v := some (.int (i32 (0)))) rfl rfl rfl rfl rfl rfl ?_
    exact ⟨F12, (0), rfl, rfl, hC13, hM14, by omega, trivial⟩
set_option maxRecDepth 20000 in
set_option maxHeartbeats 4000000 in
theorem k_LCoder_here {X : jX} {dd : Nat} {R : Nat → jC} {m : Nat} {tg ln : Int → Int} {F : Int → Int → Int} {me lb : Int} (hd : 1 ≤ dd) (hC : HC 0 m tg ln F) (o_me : own m me) (t_me : tg me = 2) (h_lb : (-2147483648 : Int) ≤ lb ∧ lb ≤ 2147483647) : wk X dd 50 [rv me, .int (i32 lb)] (cV R m tg ln F) (fun o V_q => ∃ (F_q : Int → Int → Int), V_q = cV R m tg ln F_q ∧ o = .inl none ∧ HC 0 m tg ln F_q ∧ Fq 0 [(21, -5)] m tg F F_q ∧ True) := by
  obtain ⟨d, rfl⟩ : ∃ d, dd = d + 1 := ⟨dd - 1, by omega⟩
  refine wk_of (e := jm50) rfl (by rw [jS_r, jS_i, jS_0]; exact Nat.le_of_ble_eq_true rfl) ?_
  rw [la_r, la_i, la_0]
  show wj X d jm50 (0, [(0, rv (me)), (1, .int (i32 (lb)))], [], cV R m tg ln F) _
  have hM0 : Fq 0 [(21, -5)] m tg F F := Fq_r
  obtain ⟨L0, eL0⟩ : ∃ q : jL, q = [(0, rv (me)), (1, .int (i32 (lb)))] := ⟨_, rfl⟩
  rw [← eL0]
  have g1 : jGet L0 0 = some (rv (me)) := eL0 ▸ (rfl : jGet [(0, rv (me)), (1, .int (i32 (lb)))] 0 = some (rv (me)))
  have g2 : jGet L0 1 = some (.int (i32 (lb))) := eL0 ▸ (rfl : jGet [(0, rv (me)), (1, .int (i32 (lb)))] 1 = some (.int (i32 (lb))))
  clear eL0
  refine jx_ld (pc_q := 1) (l_q := L0) (st_q := [.int (i32 (lb))]) rfl (jl_iloadn g2) ?_
  refine jx_if_lt (pc_q := 4) (tg := 23) rfl rfl rfl (by omega) (by omega) (fun h3 => ?_) (fun h3 => ?_)
  · have _q := h3
    refine jx_rt (v := none) rfl rfl rfl rfl rfl rfl ?_
    exact ⟨F, rfl, rfl, hC, hM0, trivial⟩
  · have _q := h3
    refine jx_ld (pc_q := 5) (l_q := L0) (st_q := [.int (i32 (lb))]) rfl (jl_iloadn g2) ?_
    refine jx_ld (pc_q := 6) (l_q := L0) (st_q := [rv (me), .int (i32 (lb))]) rfl (jl_rvn g1) ?_
    refine cx_gr (pc_q := 9) (c := 1) (q := 6) (v := F (me) (6 : Int)) rfl rfl (by decide) (by decide) rfl rfl o_me t_me rfl ?_
    have y4 : own m (F (me) (6 : Int)) ∧ tg (F (me) (6 : Int)) = 21 ∧ ((6000 : Int) ≠ 0 → ln (F (me) (6 : Int)) = 6000) := by have z := HC_n (c := 1) (q := 6) hC o_me t_me (own_z o_me) (by decide) rfl; rw [show F (me) ((6 : Nat) : Int) = F (me) (6 : Int) from rfl] at z; exact ⟨z.1, z.2.1, z.2.2.1⟩
    have ly4 : ln (F (me) (6 : Int)) = 6000 := y4.2.2 (by decide)
    have b5 := HC_l hC y4.1 y4.2.1 (by decide)
    refine cx_len (pc_q := 10) rfl rfl y4.1 (by rw [y4.2.1]; decide) (by omega) ?_
    refine jx_icmp_ge (pc_q := 13) (tg := 23) rfl rfl rfl (by omega) (by omega) (by omega) (by omega) (fun h6 => ?_) (fun h6 => ?_)
    · have _q := h6
      refine jx_rt (v := none) rfl rfl rfl rfl rfl rfl ?_
      exact ⟨F, rfl, rfl, hC, hM0, trivial⟩
    · have _q := h6
      refine jx_ld (pc_q := 14) (l_q := L0) (st_q := [rv (me)]) rfl (jl_rvn g1) ?_
      refine cx_gr (pc_q := 17) (c := 1) (q := 6) (v := F (me) (6 : Int)) rfl rfl (by decide) (by decide) rfl rfl o_me t_me rfl ?_
      refine jx_ld (pc_q := 18) (l_q := L0) (st_q := [.int (i32 (lb)), rv (F (me) (6 : Int))]) rfl (jl_iloadn g2) ?_
      refine jx_ld (pc_q := 19) (l_q := L0) (st_q := [rv (me), .int (i32 (lb)), rv (F (me) (6 : Int))]) rfl (jl_rvn g1) ?_
      refine cx_gi (pc_q := 22) (c := 1) (q := 7) (v := F (me) (7 : Int)) rfl rfl (by decide) (by decide) (Or.inl rfl) rfl o_me t_me rfl ?_
      have b7 : (0 : Int) ≤ F (me) (7 : Int) ∧ F (me) (7 : Int) ≤ 6000 := by have z := HC_i (c := 1) (q := 7) hC o_me t_me (by decide) rfl; rw [show F (me) ((7 : Nat) : Int) = F (me) (7 : Int) from rfl] at z; exact z
      refine cx_ias (pc_q := 23) (z := lb) (y := F (me) (7 : Int)) rfl rfl y4.1 y4.2.1 (by omega) (by omega) (by omega) ?_
      obtain ⟨F8, eF8⟩ : ∃ q, q = uF F (F (me) (6 : Int)) (lb) (F (me) (7 : Int)) := ⟨_, rfl⟩
      rw [← eF8]
      have hC9 : HC 0 m tg ln F8 := by rw [eF8]; exact HC_pi hC y4.1 y4.2.1 (by decide) (by omega) (by rw [(show F (F (me) (6 : Int)) (-1) = 0 by have z := HC_n (c := 1) (q := 6) hC o_me t_me (own_z o_me) (by decide) rfl; rw [show F (me) ((6 : Nat) : Int) = F (me) (6 : Int) from rfl] at z; exact z.2.2.2 (by decide))]; exact ⟨(by show (-2147483648 : Int) ≤ _; omega), (by show _ ≤ (2147483647 : Int); omega)⟩)
      have hM10 : Fq 0 [(21, -5)] m tg F F8 := by rw [eF8]; exact Fq_p hM0 y4.2.1 (fun _ => rfl) (inL_a rfl (by omega) rfl)
      refine jx_rt (v := none) rfl rfl rfl rfl rfl rfl ?_
      exact ⟨F8, rfl, rfl, hC9, hM10, trivial⟩
set_option maxRecDepth 20000 in
set_option maxHeartbeats 4000000 in
theorem k_LCoder_placeOf {X : jX} {dd : Nat} {R : Nat → jC} {m : Nat} {tg ln : Int → Int} {F : Int → Int → Int} {me lb : Int} (hd : 1 ≤ dd) (hC : HC 0 m tg ln F) (o_me : own m me) (t_me : tg me = 2) (h_lb : (-2147483648 : Int) ≤ lb ∧ lb ≤ 2147483647) : wk X dd 51 [rv me, .int (i32 lb)] (cV R m tg ln F) (fun o V_q => ∃ (r : Int), V_q = cV R m tg ln F ∧ o = .inl (some (.int (i32 r))) ∧ (-2147483648 ≤ r ∧ r ≤ 2147483647) ∧ True) := by
  obtain ⟨d, rfl⟩ : ∃ d, dd = d + 1 := ⟨dd - 1, by omega⟩
  refine wk_of (e := jm51) rfl (by rw [jS_r, jS_i, jS_0]; exact Nat.le_of_ble_eq_true rfl) ?_
  rw [la_r, la_i, la_0]
  show wj X d jm51 (0, [(0, rv (me)), (1, .int (i32 (lb)))], [], cV R m tg ln F) _
  obtain ⟨L0, eL0⟩ : ∃ q : jL, q = [(0, rv (me)), (1, .int (i32 (lb)))] := ⟨_, rfl⟩
  rw [← eL0]
  have g1 : jGet L0 0 = some (rv (me)) := eL0 ▸ (rfl : jGet [(0, rv (me)), (1, .int (i32 (lb)))] 0 = some (rv (me)))
  have g2 : jGet L0 1 = some (.int (i32 (lb))) := eL0 ▸ (rfl : jGet [(0, rv (me)), (1, .int (i32 (lb)))] 1 = some (.int (i32 (lb))))
  clear eL0
  refine jx_ld (pc_q := 1) (l_q := L0) (st_q := [.int (i32 (lb))]) rfl (jl_iloadn g2) ?_
  refine jx_if_lt (pc_q := 4) (tg := 22) rfl rfl rfl (by omega) (by omega) (fun h3 => ?_) (fun h3 => ?_)
  · have _q := h3
    refine jx_ar (pc_q := 23) (st_q := [.int (i32 (0))]) rfl rfl rfl rfl ?_
    refine jx_ld (pc_q := 24) (l_q := jSto1 L0 2 (.int (i32 (0)))) (st_q := []) rfl rfl ?_
    obtain ⟨L4, eL4⟩ : ∃ q : jL, q = jSto1 L0 2 (.int (i32 (0))) := ⟨_, rfl⟩
    rw [← eL4]
    have g5 : jGet L4 0 = some (rv (me)) := eL4 ▸ jg_nr (by decide) g1
    have g6 : jGet L4 1 = some (.int (i32 (lb))) := eL4 ▸ jg_ne (by decide) g2 rfl
    have g7 : jGet L4 2 = some (.int (i32 (0))) := eL4 ▸ jg_eq
    clear eL4
    refine jx_ld (pc_q := 25) (l_q := L4) (st_q := [.int (i32 (0))]) rfl (jl_iloadn g7) ?_
    refine jx_if_lt (pc_q := 28) (tg := 46) rfl rfl rfl (by decide) (by decide) (fun h8 => ?_) (fun h8 => ?_)
    · have _q := h8
      exact absurd h8 (by omega)
    · have _q := h8
      refine jx_ld (pc_q := 29) (l_q := L4) (st_q := [.int (i32 (0))]) rfl (jl_iloadn g7) ?_
      refine jx_ld (pc_q := 30) (l_q := L4) (st_q := [rv (me), .int (i32 (0))]) rfl (jl_rvn g5) ?_
      refine cx_gr (pc_q := 33) (c := 1) (q := 5) (v := F (me) (5 : Int)) rfl rfl (by decide) (by decide) rfl rfl o_me t_me rfl ?_
      have y9 : own m (F (me) (5 : Int)) ∧ tg (F (me) (5 : Int)) = 21 ∧ ((6001 : Int) ≠ 0 → ln (F (me) (5 : Int)) = 6001) := by have z := HC_n (c := 1) (q := 5) hC o_me t_me (own_z o_me) (by decide) rfl; rw [show F (me) ((5 : Nat) : Int) = F (me) (5 : Int) from rfl] at z; exact ⟨z.1, z.2.1, z.2.2.1⟩
      have ly9 : ln (F (me) (5 : Int)) = 6001 := y9.2.2 (by decide)
      have b10 := HC_l hC y9.1 y9.2.1 (by decide)
      refine cx_len (pc_q := 34) rfl rfl y9.1 (by rw [y9.2.1]; decide) (by omega) ?_
      refine jx_icmp_ge (pc_q := 37) (tg := 46) rfl rfl rfl (by decide) (by decide) (by omega) (by omega) (fun h11 => ?_) (fun h11 => ?_)
      · have _q := h11
        refine jx_ar (pc_q := 47) (st_q := [.int (i32 (0))]) rfl rfl rfl rfl ?_
        refine jx_rt (v := some (.int (i32 (0)))) rfl rfl rfl rfl rfl rfl ?_
        exact ⟨(0), rfl, rfl, by omega, trivial⟩
      · have _q := h11
        refine jx_ld (pc_q := 38) (l_q := L4) (st_q := [rv (me)]) rfl (jl_rvn g5) ?_
        refine cx_gr (pc_q := 41) (c := 1) (q := 5) (v := F (me) (5 : Int)) rfl rfl (by decide) (by decide) rfl rfl o_me t_me rfl ?_
        refine jx_ld (pc_q := 42) (l_q := L4) (st_q := [.int (i32 (0)), rv (F (me) (5 : Int))]) rfl (jl_iloadn g7) ?_
        refine cx_ial (pc_q := 43) (z := 0) rfl rfl y9.1 y9.2.1 (by omega) (by omega) (by omega) ?_
        have b12 : (0 : Int) ≤ F (F (me) (5 : Int)) (0 : Int) ∧ F (F (me) (5 : Int)) (0 : Int) ≤ 1000000 := by have z := HC_e (j := 0) hC y9.1 (by rw [y9.2.1]; decide) (by omega); rw [(show F (F (me) (5 : Int)) (-1) = 2 by have z := HC_n (c := 1) (q := 5) hC o_me t_me (own_z o_me) (by decide) rfl; rw [show F (me) ((5 : Nat) : Int) = F (me) (5 : Int) from rfl] at z; exact z.2.2.2 (by decide))] at z; exact z
        refine jx_go (tg := 47) rfl rfl ?_
        refine jx_rt (v := some (.int (i32 (F (F (me) (5 : Int)) (0 : Int))))) rfl rfl rfl rfl rfl rfl ?_
        exact ⟨(F (F (me) (5 : Int)) (0 : Int)), rfl, rfl, by omega, trivial⟩
  · have _q := h3
    refine jx_ld (pc_q := 5) (l_q := L0) (st_q := [.int (i32 (lb))]) rfl (jl_iloadn g2) ?_
    refine jx_ld (pc_q := 6) (l_q := L0) (st_q := [rv (me), .int (i32 (lb))]) rfl (jl_rvn g1) ?_
    refine cx_gr (pc_q := 9) (c := 1) (q := 6) (v := F (me) (6 : Int)) rfl rfl (by decide) (by decide) rfl rfl o_me t_me rfl ?_
    have y13 : own m (F (me) (6 : Int)) ∧ tg (F (me) (6 : Int)) = 21 ∧ ((6000 : Int) ≠ 0 → ln (F (me) (6 : Int)) = 6000) := by have z := HC_n (c := 1) (q := 6) hC o_me t_me (own_z o_me) (by decide) rfl; rw [show F (me) ((6 : Nat) : Int) = F (me) (6 : Int) from rfl] at z; exact ⟨z.1, z.2.1, z.2.2.1⟩
    have ly13 : ln (F (me) (6 : Int)) = 6000 := y13.2.2 (by decide)
    have b14 := HC_l hC y13.1 y13.2.1 (by decide)
    refine cx_len (pc_q := 10) rfl rfl y13.1 (by rw [y13.2.1]; decide) (by omega) ?_
    refine jx_icmp_ge (pc_q := 13) (tg := 22) rfl rfl rfl (by omega) (by omega) (by omega) (by omega) (fun h15 => ?_) (fun h15 => ?_)
    · have _q := h15
      refine jx_ar (pc_q := 23) (st_q := [.int (i32 (0))]) rfl rfl rfl rfl ?_
      refine jx_ld (pc_q := 24) (l_q := jSto1 L0 2 (.int (i32 (0)))) (st_q := []) rfl rfl ?_
      obtain ⟨L16, eL16⟩ : ∃ q : jL, q = jSto1 L0 2 (.int (i32 (0))) := ⟨_, rfl⟩
      rw [← eL16]
      have g17 : jGet L16 0 = some (rv (me)) := eL16 ▸ jg_nr (by decide) g1
      have g18 : jGet L16 1 = some (.int (i32 (lb))) := eL16 ▸ jg_ne (by decide) g2 rfl
      have g19 : jGet L16 2 = some (.int (i32 (0))) := eL16 ▸ jg_eq
      clear eL16
      refine jx_ld (pc_q := 25) (l_q := L16) (st_q := [.int (i32 (0))]) rfl (jl_iloadn g19) ?_
      refine jx_if_lt (pc_q := 28) (tg := 46) rfl rfl rfl (by decide) (by decide) (fun h20 => ?_) (fun h20 => ?_)
      · have _q := h20
        exact absurd h20 (by omega)
      · have _q := h20
        refine jx_ld (pc_q := 29) (l_q := L16) (st_q := [.int (i32 (0))]) rfl (jl_iloadn g19) ?_
        refine jx_ld (pc_q := 30) (l_q := L16) (st_q := [rv (me), .int (i32 (0))]) rfl (jl_rvn g17) ?_
        refine cx_gr (pc_q := 33) (c := 1) (q := 5) (v := F (me) (5 : Int)) rfl rfl (by decide) (by decide) rfl rfl o_me t_me rfl ?_
        have y21 : own m (F (me) (5 : Int)) ∧ tg (F (me) (5 : Int)) = 21 ∧ ((6001 : Int) ≠ 0 → ln (F (me) (5 : Int)) = 6001) := by have z := HC_n (c := 1) (q := 5) hC o_me t_me (own_z o_me) (by decide) rfl; rw [show F (me) ((5 : Nat) : Int) = F (me) (5 : Int) from rfl] at z; exact ⟨z.1, z.2.1, z.2.2.1⟩
        have ly21 : ln (F (me) (5 : Int)) = 6001 := y21.2.2 (by decide)
        have b22 := HC_l hC y21.1 y21.2.1 (by decide)
        refine cx_len (pc_q := 34) rfl rfl y21.1 (by rw [y21.2.1]; decide) (by omega) ?_
        refine jx_icmp_ge (pc_q := 37) (tg := 46) rfl rfl rfl (by decide) (by decide) (by omega) (by omega) (fun h23 => ?_) (fun h23 => ?_)
        · have _q := h23
          refine jx_ar (pc_q := 47) (st_q := [.int (i32 (0))]) rfl rfl rfl rfl ?_
          refine jx_rt (v := some (.int (i32 (0)))) rfl rfl rfl rfl rfl rfl ?_
          exact ⟨(0), rfl, rfl, by omega, trivial⟩
        · have _q := h23
          refine jx_ld (pc_q := 38) (l_q := L16) (st_q := [rv (me)]) rfl (jl_rvn g17) ?_
          refine cx_gr (pc_q := 41) (c := 1) (q := 5) (v := F (me) (5 : Int)) rfl rfl (by decide) (by decide) rfl rfl o_me t_me rfl ?_
          refine jx_ld (pc_q := 42) (l_q := L16) (st_q := [.int (i32 (0)), rv (F (me) (5 : Int))]) rfl (jl_iloadn g19) ?_
          refine cx_ial (pc_q := 43) (z := 0) rfl rfl y21.1 y21.2.1 (by omega) (by omega) (by omega) ?_
          have b24 : (0 : Int) ≤ F (F (me) (5 : Int)) (0 : Int) ∧ F (F (me) (5 : Int)) (0 : Int) ≤ 1000000 := by have z := HC_e (j := 0) hC y21.1 (by rw [y21.2.1]; decide) (by omega); rw [(show F (F (me) (5 : Int)) (-1) = 2 by have z := HC_n (c := 1) (q := 5) hC o_me t_me (own_z o_me) (by decide) rfl; rw [show F (me) ((5 : Nat) : Int) = F (me) (5 : Int) from rfl] at z; exact z.2.2.2 (by decide))] at z; exact z
          refine jx_go (tg := 47) rfl rfl ?_
          refine jx_rt (v := some (.int (i32 (F (F (me) (5 : Int)) (0 : Int))))) rfl rfl rfl rfl rfl rfl ?_
          exact ⟨(F (F (me) (5 : Int)) (0 : Int)), rfl, rfl, by omega, trivial⟩
    · have _q := h15
      refine jx_ld (pc_q := 14) (l_q := L0) (st_q := [rv (me)]) rfl (jl_rvn g1) ?_
      refine cx_gr (pc_q := 17) (c := 1) (q := 6) (v := F (me) (6 : Int)) rfl rfl (by decide) (by decide) rfl rfl o_me t_me rfl ?_
      refine jx_ld (pc_q := 18) (l_q := L0) (st_q := [.int (i32 (lb)), rv (F (me) (6 : Int))]) rfl (jl_iloadn g2) ?_
      refine cx_ial (pc_q := 19) (z := lb) rfl rfl y13.1 y13.2.1 (by omega) (by omega) (by omega) ?_
      have b25 : (-2147483648 : Int) ≤ F (F (me) (6 : Int)) (lb) ∧ F (F (me) (6 : Int)) (lb) ≤ 2147483647 := by have z := HC_ei (j := lb) hC y13.1 (by rw [y13.2.1]; decide) (by omega); exact z
      refine jx_go (tg := 23) rfl rfl ?_
      refine jx_ld (pc_q := 24) (l_q := jSto1 L0 2 (.int (i32 (F (F (me) (6 : Int)) (lb))))) (st_q := []) rfl rfl ?_
      obtain ⟨L26, eL26⟩ : ∃ q : jL, q = jSto1 L0 2 (.int (i32 (F (F (me) (6 : Int)) (lb)))) := ⟨_, rfl⟩
      rw [← eL26]
      have g27 : jGet L26 0 = some (rv (me)) := eL26 ▸ jg_nr (by decide) g1
      have g28 : jGet L26 1 = some (.int (i32 (lb))) := eL26 ▸ jg_ne (by decide) g2 rfl
      have g29 : jGet L26 2 = some (.int (i32 (F (F (me) (6 : Int)) (lb)))) := eL26 ▸ jg_eq
      clear eL26
      refine jx_ld (pc_q := 25) (l_q := L26) (st_q := [.int (i32 (F (F (me) (6 : Int)) (lb)))]) rfl (jl_iloadn g29) ?_
      refine jx_if_lt (pc_q := 28) (tg := 46) rfl rfl rfl (by omega) (by omega) (fun h30 => ?_) (fun h30 => ?_)
      · have _q := h30
        refine jx_ar (pc_q := 47) (st_q := [.int (i32 (0))]) rfl rfl rfl rfl ?_
        refine jx_rt (v := some (.int (i32 (0)))) rfl rfl rfl rfl rfl rfl ?_
        exact ⟨(0), rfl, rfl, by omega, trivial⟩
      · have _q := h30
        refine jx_ld (pc_q := 29) (l_q := L26) (st_q := [.int (i32 (F (F (me) (6 : Int)) (lb)))]) rfl (jl_iloadn g29) ?_
        refine jx_ld (pc_q := 30) (l_q := L26) (st_q := [rv (me), .int (i32 (F (F (me) (6 : Int)) (lb)))]) rfl (jl_rvn g27) ?_
        refine cx_gr (pc_q := 33) (c := 1) (q := 5) (v := F (me) (5 : Int)) rfl rfl (by decide) (by decide) rfl rfl o_me t_me rfl ?_
        have y31 : own m (F (me) (5 : Int)) ∧ tg (F (me) (5 : Int)) = 21 ∧ ((6001 : Int) ≠ 0 → ln (F (me) (5 : Int)) = 6001) := by have z := HC_n (c := 1) (q := 5) hC o_me t_me (own_z o_me) (by decide) rfl; rw [show F (me) ((5 : Nat) : Int) = F (me) (5 : Int) from rfl] at z; exact ⟨z.1, z.2.1, z.2.2.1⟩
        have ly31 : ln (F (me) (5 : Int)) = 6001 := y31.2.2 (by decide)
        have b32 := HC_l hC y31.1 y31.2.1 (by decide)
        refine cx_len (pc_q := 34) rfl rfl y31.1 (by rw [y31.2.1]; decide) (by omega) ?_
        refine jx_icmp_ge (pc_q := 37) (tg := 46) rfl rfl rfl (by omega) (by omega) (by omega) (by omega) (fun h33 => ?_) (fun h33 => ?_)
        · have _q := h33
          refine jx_ar (pc_q := 47) (st_q := [.int (i32 (0))]) rfl rfl rfl rfl ?_
          refine jx_rt (v := some (.int (i32 (0)))) rfl rfl rfl rfl rfl rfl ?_
          exact ⟨(0), rfl, rfl, by omega, trivial⟩
        · have _q := h33
          refine jx_ld (pc_q := 38) (l_q := L26) (st_q := [rv (me)]) rfl (jl_rvn g27) ?_
          refine cx_gr (pc_q := 41) (c := 1) (q := 5) (v := F (me) (5 : Int)) rfl rfl (by decide) (by decide) rfl rfl o_me t_me rfl ?_
          refine jx_ld (pc_q := 42) (l_q := L26) (st_q := [.int (i32 (F (F (me) (6 : Int)) (lb))), rv (F (me) (5 : Int))]) rfl (jl_iloadn g29) ?_
          refine cx_ial (pc_q := 43) (z := F (F (me) (6 : Int)) (lb)) rfl rfl y31.1 y31.2.1 (by omega) (by omega) (by omega) ?_
          have b34 : (0 : Int) ≤ F (F (me) (5 : Int)) (F (F (me) (6 : Int)) (lb)) ∧ F (F (me) (5 : Int)) (F (F (me) (6 : Int)) (lb)) ≤ 1000000 := by have z := HC_e (j := F (F (me) (6 : Int)) (lb)) hC y31.1 (by rw [y31.2.1]; decide) (by omega); rw [(show F (F (me) (5 : Int)) (-1) = 2 by have z := HC_n (c := 1) (q := 5) hC o_me t_me (own_z o_me) (by decide) rfl; rw [show F (me) ((5 : Nat) : Int) = F (me) (5 : Int) from rfl] at z; exact z.2.2.2 (by decide))] at z; exact z
          refine jx_go (tg := 47) rfl rfl ?_
          refine jx_rt (v := some (.int (i32 (F (F (me) (5 : Int)) (F (F (me) (6 : Int)) (lb)))))) rfl rfl rfl rfl rfl rfl ?_
          exact ⟨(F (F (me) (5 : Int)) (F (F (me) (6 : Int)) (lb))), rfl, rfl, by omega, trivial⟩
set_option maxRecDepth 20000 in
set_option maxHeartbeats 4000000 in
theorem k_LCoder_lengthOf_at_36 {X : jX} {d : Nat} {R : Nat → jC} {m : Nat} {tg ln : Int → Int} {F : Int → Int → Int} {op : Int} (hd : 1 ≤ d + 1) (hC : HC 0 m tg ln F) (h_op : (-2147483648 : Int) ≤ op ∧ op ≤ 2147483647) : ∀ (mm : Nat) (L : jL) (rs by_ k : Int), (8 - k).toNat = mm → jGet L 0 = some (.int (i32 (op))) → jGet L 1 = some (.int (i32 rs)) → jGet L 2 = some (.int (i32 by_)) → jGet L 3 = some (.int (i32 k)) → ((-2147483648 : Int) ≤ rs ∧ rs ≤ 2147483647) → ((-2147483648 : Int) ≤ by_ ∧ by_ ≤ 2147483647) → ((-2147483648 : Int) ≤ k ∧ k ≤ 2147483647) → (0 ≤ k) → (k ≤ 8) → (1 ≤ by_) → (by_ ≤ k + 2) → wj X d jm52 (36, L, [], cV R m tg ln F) (fun o V_q => ∃ (r : Int), V_q = cV R m tg ln F ∧ o = .inl (some (.int (i32 r))) ∧ (1 ≤ r ∧ r ≤ 10) ∧ True) := by
  intro mm
  induction mm using Nat.strongRecOn with
  | ind mm ih =>
    intro L rs by_ k hmm gL_0 gL_1 gL_2 gL_3 rx_rs rx_by_ rx_k iv_0 iv_1 iv_2 iv_3
    refine jx_ld (pc_q := 37) (l_q := L) (st_q := [.int (i32 (k))]) rfl (jl_iloadn gL_3) ?_
    refine jx_ar (pc_q := 39) (st_q := [.int (i32 (8)), .int (i32 (k))]) rfl rfl rfl rfl ?_
    refine jx_icmp_ge (pc_q := 42) (tg := 59) rfl rfl rfl (by omega) (by omega) (by decide) (by decide) (fun h1 => ?_) (fun h1 => ?_)
    · have _q := h1
      refine jx_ld (pc_q := 60) (l_q := L) (st_q := [.int (i32 (by_))]) rfl (jl_iloadn gL_2) ?_
      refine jx_rt (v := some (.int (i32 (by_)))) rfl rfl rfl rfl rfl rfl ?_
      exact ⟨(by_), rfl, rfl, by omega, trivial⟩
    · have _q := h1
      refine jx_ld (pc_q := 43) (l_q := L) (st_q := [.int (i32 (rs))]) rfl (jl_iloadn gL_1) ?_
      refine jx_if_eq (pc_q := 46) (tg := 59) rfl rfl rfl (by omega) (by omega) (fun h2 => ?_) (fun h2 => ?_)
      · have _q := h2
        refine jx_ld (pc_q := 60) (l_q := L) (st_q := [.int (i32 (by_))]) rfl (jl_iloadn gL_2) ?_
        refine jx_rt (v := some (.int (i32 (by_)))) rfl rfl rfl rfl rfl rfl ?_
        exact ⟨(by_), rfl, rfl, by omega, trivial⟩
      · have _q := h2
        refine jx_ld (pc_q := 47) (l_q := L) (st_q := [.int (i32 (rs))]) rfl (jl_iloadn gL_1) ?_
        refine jx_ar (pc_q := 48) (st_q := [.int (i32 (4)), .int (i32 (rs))]) rfl rfl rfl rfl ?_
        refine jx_ushrw (pc_q := 49) rfl rfl (fun r3 hr3 => ?_)
        refine jx_ld (pc_q := 50) (l_q := jSto1 L 1 (.int (i32 (r3)))) (st_q := []) rfl rfl ?_
        obtain ⟨L4, eL4⟩ : ∃ q : jL, q = jSto1 L 1 (.int (i32 (r3))) := ⟨_, rfl⟩
        rw [← eL4]
        have g5 : jGet L4 0 = some (.int (i32 (op))) := eL4 ▸ jg_ne (by decide) gL_0 rfl
        have g6 : jGet L4 2 = some (.int (i32 (by_))) := eL4 ▸ jg_ne (by decide) gL_2 rfl
        have g7 : jGet L4 3 = some (.int (i32 (k))) := eL4 ▸ jg_ne (by decide) gL_3 rfl
        have g8 : jGet L4 1 = some (.int (i32 (r3))) := eL4 ▸ jg_eq
        clear eL4
        refine jx_inc (pc_q := 53) (l_q := jSto1 L4 2 (.int (i32 (by_ + (1))))) (x := by_) rfl g6 (by decide) rfl rfl ?_
        obtain ⟨L9, eL9⟩ : ∃ q : jL, q = jSto1 L4 2 (.int (i32 ((by_ + (1))))) := ⟨_, rfl⟩
        rw [← eL9]
        have g10 : jGet L9 0 = some (.int (i32 (op))) := eL9 ▸ jg_ne (by decide) g5 rfl
        have g11 : jGet L9 3 = some (.int (i32 (k))) := eL9 ▸ jg_ne (by decide) g7 rfl
        have g12 : jGet L9 1 = some (.int (i32 (r3))) := eL9 ▸ jg_ne (by decide) g8 rfl
        have g13 : jGet L9 2 = some (.int (i32 ((by_ + (1))))) := eL9 ▸ jg_eq
        clear eL9
        refine jx_inc (pc_q := 56) (l_q := jSto1 L9 3 (.int (i32 (k + (1))))) (x := k) rfl g11 (by decide) rfl rfl ?_
        obtain ⟨L14, eL14⟩ : ∃ q : jL, q = jSto1 L9 3 (.int (i32 ((k + (1))))) := ⟨_, rfl⟩
        rw [← eL14]
        have g15 : jGet L14 0 = some (.int (i32 (op))) := eL14 ▸ jg_ne (by decide) g10 rfl
        have g16 : jGet L14 1 = some (.int (i32 (r3))) := eL14 ▸ jg_ne (by decide) g12 rfl
        have g17 : jGet L14 2 = some (.int (i32 ((by_ + (1))))) := eL14 ▸ jg_ne (by decide) g13 rfl
        have g18 : jGet L14 3 = some (.int (i32 ((k + (1))))) := eL14 ▸ jg_eq
        clear eL14
        refine jx_go (tg := 36) rfl rfl ?_
        exact ih _ (by omega) L14 (r3) ((by_ + (1))) ((k + (1))) rfl g15 g16 g17 g18 (by omega) (by omega) (by omega) (by omega) (by omega) (by omega) (by omega)
set_option maxRecDepth 20000 in
set_option maxHeartbeats 4000000 in
theorem k_LCoder_lengthOf_at_34 {X : jX} {d : Nat} {R : Nat → jC} {m : Nat} {tg ln : Int → Int} {F : Int → Int → Int} {op : Int} (hd : 1 ≤ d + 1) (hC : HC 0 m tg ln F) (h_op : (-2147483648 : Int) ≤ op ∧ op ≤ 2147483647) : ∀ (L : jL) (rs by_ : Int), jGet L 0 = some (.int (i32 (op))) → jGet L 1 = some (.int (i32 rs)) → jGet L 2 = some (.int (i32 by_)) → ((-2147483648 : Int) ≤ rs ∧ rs ≤ 2147483647) → ((-2147483648 : Int) ≤ by_ ∧ by_ ≤ 2147483647) → (1 ≤ by_) → (by_ ≤ 2) → wj X d jm52 (34, L, [], cV R m tg ln F) (fun o V_q => ∃ (r : Int), V_q = cV R m tg ln F ∧ o = .inl (some (.int (i32 r))) ∧ (1 ≤ r ∧ r ≤ 10) ∧ True) := by
  intro L rs by_ gL_0 gL_1 gL_2 rx_rs rx_by_ iv_0 iv_1
  refine jx_ar (pc_q := 35) (st_q := [.int (i32 (0))]) rfl rfl rfl rfl ?_
  refine jx_ld (pc_q := 36) (l_q := jSto1 L 3 (.int (i32 (0)))) (st_q := []) rfl rfl ?_
  obtain ⟨L19, eL19⟩ : ∃ q : jL, q = jSto1 L 3 (.int (i32 (0))) := ⟨_, rfl⟩
  rw [← eL19]
  have g20 : jGet L19 0 = some (.int (i32 (op))) := eL19 ▸ jg_ne (by decide) gL_0 rfl
  have g21 : jGet L19 1 = some (.int (i32 (rs))) := eL19 ▸ jg_ne (by decide) gL_1 rfl
  have g22 : jGet L19 2 = some (.int (i32 (by_))) := eL19 ▸ jg_ne (by decide) gL_2 rfl
  have g23 : jGet L19 3 = some (.int (i32 (0))) := eL19 ▸ jg_eq
  clear eL19
  exact k_LCoder_lengthOf_at_36 (X := X) (d := d) (R := R) (m := m) (tg := tg) (ln := ln) (F := F) (op := op) (hd := hd) (hC := hC) (h_op := h_op) _ L19 (rs) (by_) (0) rfl g20 g21 g22 g23 (by omega) (by omega) (by omega) (by omega) (by omega) (by omega) (by omega)
set_option maxRecDepth 20000 in
set_option maxHeartbeats 4000000 in
theorem k_LCoder_lengthOf {X : jX} {dd : Nat} {R : Nat → jC} {m : Nat} {tg ln : Int → Int} {F : Int → Int → Int} {op : Int} (hd : 1 ≤ dd) (hC : HC 0 m tg ln F) (h_op : (-2147483648 : Int) ≤ op ∧ op ≤ 2147483647) : wk X dd 52 [.int (i32 op)] (cV R m tg ln F) (fun o V_q => ∃ (r : Int), V_q = cV R m tg ln F ∧ o = .inl (some (.int (i32 r))) ∧ (1 ≤ r ∧ r ≤ 10) ∧ True) := by
  obtain ⟨d, rfl⟩ : ∃ d, dd = d + 1 := ⟨dd - 1, by omega⟩
  refine wk_of (e := jm52) rfl (by rw [jS_i, jS_0]; exact Nat.le_of_ble_eq_true rfl) ?_
  rw [la_i, la_0]
  show wj X d jm52 (0, [(0, .int (i32 (op)))], [], cV R m tg ln F) _
  obtain ⟨L0, eL0⟩ : ∃ q : jL, q = [(0, .int (i32 (op)))] := ⟨_, rfl⟩
  rw [← eL0]
  have g24 : jGet L0 0 = some (.int (i32 (op))) := eL0 ▸ (rfl : jGet [(0, .int (i32 (op)))] 0 = some (.int (i32 (op))))
  clear eL0
  refine jx_ld (pc_q := 1) (l_q := L0) (st_q := [.int (i32 (op))]) rfl (jl_iloadn g24) ?_
  refine jx_if_ge (pc_q := 4) (tg := 12) rfl rfl rfl (by omega) (by omega) (fun h25 => ?_) (fun h25 => ?_)
  · have _q := h25
    refine jx_ld (pc_q := 13) (l_q := L0) (st_q := [.int (i32 (op))]) rfl (jl_iloadn g24) ?_
    refine jx_ar (pc_q := 14) (st_q := [.int (i32 (4)), .int (i32 (op))]) rfl rfl rfl rfl ?_
    refine jx_ushrw (pc_q := 15) rfl rfl (fun r26 hr26 => ?_)
    refine jx_ld (pc_q := 16) (l_q := jSto1 L0 1 (.int (i32 (r26)))) (st_q := []) rfl rfl ?_
    obtain ⟨L27, eL27⟩ : ∃ q : jL, q = jSto1 L0 1 (.int (i32 (r26))) := ⟨_, rfl⟩
    rw [← eL27]
    have g28 : jGet L27 0 = some (.int (i32 (op))) := eL27 ▸ jg_ne (by decide) g24 rfl
    have g29 : jGet L27 1 = some (.int (i32 (r26))) := eL27 ▸ jg_eq
    clear eL27
    refine jx_ld (pc_q := 17) (l_q := L27) (st_q := [.int (i32 (op))]) rfl (jl_iloadn g28) ?_
    refine jx_if_ge (pc_q := 20) (tg := 24) rfl rfl rfl (by omega) (by omega) (fun h30 => ?_) (fun h30 => ?_)
    · have _q := h30
      refine jx_ar (pc_q := 25) (st_q := [.int (i32 (1))]) rfl rfl rfl rfl ?_
      refine jx_ld (pc_q := 26) (l_q := jSto1 L27 2 (.int (i32 (1)))) (st_q := []) rfl rfl ?_
      obtain ⟨L31, eL31⟩ : ∃ q : jL, q = jSto1 L27 2 (.int (i32 (1))) := ⟨_, rfl⟩
      rw [← eL31]
      have g32 : jGet L31 0 = some (.int (i32 (op))) := eL31 ▸ jg_ne (by decide) g28 rfl
      have g33 : jGet L31 1 = some (.int (i32 (r26))) := eL31 ▸ jg_ne (by decide) g29 rfl
      have g34 : jGet L31 2 = some (.int (i32 (1))) := eL31 ▸ jg_eq
      clear eL31
      refine jx_ld (pc_q := 27) (l_q := L31) (st_q := [.int (i32 (op))]) rfl (jl_iloadn g32) ?_
      refine jx_if_ge (pc_q := 30) (tg := 34) rfl rfl rfl (by omega) (by omega) (fun h35 => ?_) (fun h35 => ?_)
      · have _q := h35
        exact k_LCoder_lengthOf_at_34 (X := X) (d := d) (R := R) (m := m) (tg := tg) (ln := ln) (F := F) (op := op) (hd := hd) (hC := hC) (h_op := h_op) L31 (r26) (1) g32 g33 g34 (by omega) (by omega) (by omega) (by omega)
      · have _q := h35
        refine jx_ld (pc_q := 31) (l_q := L31) (st_q := [.int (i32 (r26))]) rfl (jl_iloadn g33) ?_
        refine jx_ar (pc_q := 32) (st_q := [.int (i32 (4)), .int (i32 (r26))]) rfl rfl rfl rfl ?_
        refine jx_ushrw (pc_q := 33) rfl rfl (fun r36 hr36 => ?_)
        refine jx_ld (pc_q := 34) (l_q := jSto1 L31 1 (.int (i32 (r36)))) (st_q := []) rfl rfl ?_
        obtain ⟨L37, eL37⟩ : ∃ q : jL, q = jSto1 L31 1 (.int (i32 (r36))) := ⟨_, rfl⟩
        rw [← eL37]
        have g38 : jGet L37 0 = some (.int (i32 (op))) := eL37 ▸ jg_ne (by decide) g32 rfl
        have g39 : jGet L37 2 = some (.int (i32 (1))) := eL37 ▸ jg_ne (by decide) g34 rfl
        have g40 : jGet L37 1 = some (.int (i32 (r36))) := eL37 ▸ jg_eq
        clear eL37
        exact k_LCoder_lengthOf_at_34 (X := X) (d := d) (R := R) (m := m) (tg := tg) (ln := ln) (F := F) (op := op) (hd := hd) (hC := hC) (h_op := h_op) L37 (r36) (1) g38 g40 g39 (by omega) (by omega) (by omega) (by omega)
    · have _q := h30
      refine jx_ar (pc_q := 21) (st_q := [.int (i32 (2))]) rfl rfl rfl rfl ?_
      refine jx_go (tg := 25) rfl rfl ?_
      refine jx_ld (pc_q := 26) (l_q := jSto1 L27 2 (.int (i32 (2)))) (st_q := []) rfl rfl ?_
      obtain ⟨L41, eL41⟩ : ∃ q : jL, q = jSto1 L27 2 (.int (i32 (2))) := ⟨_, rfl⟩
      rw [← eL41]
      have g42 : jGet L41 0 = some (.int (i32 (op))) := eL41 ▸ jg_ne (by decide) g28 rfl
      have g43 : jGet L41 1 = some (.int (i32 (r26))) := eL41 ▸ jg_ne (by decide) g29 rfl
      have g44 : jGet L41 2 = some (.int (i32 (2))) := eL41 ▸ jg_eq
      clear eL41
      refine jx_ld (pc_q := 27) (l_q := L41) (st_q := [.int (i32 (op))]) rfl (jl_iloadn g42) ?_
      refine jx_if_ge (pc_q := 30) (tg := 34) rfl rfl rfl (by omega) (by omega) (fun h45 => ?_) (fun h45 => ?_)
      · have _q := h45
        exact k_LCoder_lengthOf_at_34 (X := X) (d := d) (R := R) (m := m) (tg := tg) (ln := ln) (F := F) (op := op) (hd := hd) (hC := hC) (h_op := h_op) L41 (r26) (2) g42 g43 g44 (by omega) (by omega) (by omega) (by omega)
      · have _q := h45
        refine jx_ld (pc_q := 31) (l_q := L41) (st_q := [.int (i32 (r26))]) rfl (jl_iloadn g43) ?_
        refine jx_ar (pc_q := 32) (st_q := [.int (i32 (4)), .int (i32 (r26))]) rfl rfl rfl rfl ?_
        refine jx_ushrw (pc_q := 33) rfl rfl (fun r46 hr46 => ?_)
        refine jx_ld (pc_q := 34) (l_q := jSto1 L41 1 (.int (i32 (r46)))) (st_q := []) rfl rfl ?_
        obtain ⟨L47, eL47⟩ : ∃ q : jL, q = jSto1 L41 1 (.int (i32 (r46))) := ⟨_, rfl⟩
        rw [← eL47]
        have g48 : jGet L47 0 = some (.int (i32 (op))) := eL47 ▸ jg_ne (by decide) g42 rfl
        have g49 : jGet L47 2 = some (.int (i32 (2))) := eL47 ▸ jg_ne (by decide) g44 rfl
        have g50 : jGet L47 1 = some (.int (i32 (r46))) := eL47 ▸ jg_eq
        clear eL47
        exact k_LCoder_lengthOf_at_34 (X := X) (d := d) (R := R) (m := m) (tg := tg) (ln := ln) (F := F) (op := op) (hd := hd) (hC := hC) (h_op := h_op) L47 (r46) (2) g48 g50 g49 (by omega) (by omega) (by omega) (by omega)
  · have _q := h25
    refine jx_ld (pc_q := 5) (l_q := L0) (st_q := [.int (i32 (op))]) rfl (jl_iloadn g24) ?_
    refine jx_ar (pc_q := 6) (st_q := [.int (i32 (-1)), .int (i32 (op))]) rfl rfl rfl rfl ?_
    refine jx_xor (pc_q := 7) rfl rfl ?_
    obtain ⟨z51, ez51⟩ : ∃ q, q = (i32 (op) ^^^ i32 (-1)).toInt := ⟨_, rfl⟩
    rw [← ez51]
    have bz51 : (-2147483648 : Int) ≤ z51 ∧ z51 ≤ 2147483647 := ez51 ▸ i32_rg _
    clear ez51
    refine jx_ar (pc_q := 8) (st_q := [.int (i32 (4)), .int (i32 (z51))]) rfl rfl rfl rfl ?_
    refine jx_ushrw (pc_q := 9) rfl rfl (fun r52 hr52 => ?_)
    refine jx_go (tg := 15) rfl rfl ?_
    refine jx_ld (pc_q := 16) (l_q := jSto1 L0 1 (.int (i32 (r52)))) (st_q := []) rfl rfl ?_
    obtain ⟨L53, eL53⟩ : ∃ q : jL, q = jSto1 L0 1 (.int (i32 (r52))) := ⟨_, rfl⟩
    rw [← eL53]
    have g54 : jGet L53 0 = some (.int (i32 (op))) := eL53 ▸ jg_ne (by decide) g24 rfl
    have g55 : jGet L53 1 = some (.int (i32 (r52))) := eL53 ▸ jg_eq
    clear eL53
    refine jx_ld (pc_q := 17) (l_q := L53) (st_q := [.int (i32 (op))]) rfl (jl_iloadn g54) ?_
    refine jx_if_ge (pc_q := 20) (tg := 24) rfl rfl rfl (by omega) (by omega) (fun h56 => ?_) (fun h56 => ?_)
    · have _q := h56
      refine jx_ar (pc_q := 25) (st_q := [.int (i32 (1))]) rfl rfl rfl rfl ?_
      refine jx_ld (pc_q := 26) (l_q := jSto1 L53 2 (.int (i32 (1)))) (st_q := []) rfl rfl ?_
      obtain ⟨L57, eL57⟩ : ∃ q : jL, q = jSto1 L53 2 (.int (i32 (1))) := ⟨_, rfl⟩
      rw [← eL57]
      have g58 : jGet L57 0 = some (.int (i32 (op))) := eL57 ▸ jg_ne (by decide) g54 rfl
      have g59 : jGet L57 1 = some (.int (i32 (r52))) := eL57 ▸ jg_ne (by decide) g55 rfl
      have g60 : jGet L57 2 = some (.int (i32 (1))) := eL57 ▸ jg_eq
      clear eL57
      refine jx_ld (pc_q := 27) (l_q := L57) (st_q := [.int (i32 (op))]) rfl (jl_iloadn g58) ?_
      refine jx_if_ge (pc_q := 30) (tg := 34) rfl rfl rfl (by omega) (by omega) (fun h61 => ?_) (fun h61 => ?_)
      · have _q := h61
        exact k_LCoder_lengthOf_at_34 (X := X) (d := d) (R := R) (m := m) (tg := tg) (ln := ln) (F := F) (op := op) (hd := hd) (hC := hC) (h_op := h_op) L57 (r52) (1) g58 g59 g60 (by omega) (by omega) (by omega) (by omega)
      · have _q := h61
        refine jx_ld (pc_q := 31) (l_q := L57) (st_q := [.int (i32 (r52))]) rfl (jl_iloadn g59) ?_
        refine jx_ar (pc_q := 32) (st_q := [.int (i32 (4)), .int (i32 (r52))]) rfl rfl rfl rfl ?_
        refine jx_ushrw (pc_q := 33) rfl rfl (fun r62 hr62 => ?_)
        refine jx_ld (pc_q := 34) (l_q := jSto1 L57 1 (.int (i32 (r62)))) (st_q := []) rfl rfl ?_
        obtain ⟨L63, eL63⟩ : ∃ q : jL, q = jSto1 L57 1 (.int (i32 (r62))) := ⟨_, rfl⟩
        rw [← eL63]
        have g64 : jGet L63 0 = some (.int (i32 (op))) := eL63 ▸ jg_ne (by decide) g58 rfl
        have g65 : jGet L63 2 = some (.int (i32 (1))) := eL63 ▸ jg_ne (by decide) g60 rfl
        have g66 : jGet L63 1 = some (.int (i32 (r62))) := eL63 ▸ jg_eq
        clear eL63
        exact k_LCoder_lengthOf_at_34 (X := X) (d := d) (R := R) (m := m) (tg := tg) (ln := ln) (F := F) (op := op) (hd := hd) (hC := hC) (h_op := h_op) L63 (r62) (1) g64 g66 g65 (by omega) (by omega) (by omega) (by omega)
    · have _q := h56
      refine jx_ar (pc_q := 21) (st_q := [.int (i32 (2))]) rfl rfl rfl rfl ?_
      refine jx_go (tg := 25) rfl rfl ?_
      refine jx_ld (pc_q := 26) (l_q := jSto1 L53 2 (.int (i32 (2)))) (st_q := []) rfl rfl ?_
      obtain ⟨L67, eL67⟩ : ∃ q : jL, q = jSto1 L53 2 (.int (i32 (2))) := ⟨_, rfl⟩
      rw [← eL67]
      have g68 : jGet L67 0 = some (.int (i32 (op))) := eL67 ▸ jg_ne (by decide) g54 rfl
      have g69 : jGet L67 1 = some (.int (i32 (r52))) := eL67 ▸ jg_ne (by decide) g55 rfl
      have g70 : jGet L67 2 = some (.int (i32 (2))) := eL67 ▸ jg_eq
      clear eL67
      refine jx_ld (pc_q := 27) (l_q := L67) (st_q := [.int (i32 (op))]) rfl (jl_iloadn g68) ?_
      refine jx_if_ge (pc_q := 30) (tg := 34) rfl rfl rfl (by omega) (by omega) (fun h71 => ?_) (fun h71 => ?_)
      · have _q := h71
        exact k_LCoder_lengthOf_at_34 (X := X) (d := d) (R := R) (m := m) (tg := tg) (ln := ln) (F := F) (op := op) (hd := hd) (hC := hC) (h_op := h_op) L67 (r52) (2) g68 g69 g70 (by omega) (by omega) (by omega) (by omega)
      · have _q := h71
        refine jx_ld (pc_q := 31) (l_q := L67) (st_q := [.int (i32 (r52))]) rfl (jl_iloadn g69) ?_
        refine jx_ar (pc_q := 32) (st_q := [.int (i32 (4)), .int (i32 (r52))]) rfl rfl rfl rfl ?_
        refine jx_ushrw (pc_q := 33) rfl rfl (fun r72 hr72 => ?_)
        refine jx_ld (pc_q := 34) (l_q := jSto1 L67 1 (.int (i32 (r72)))) (st_q := []) rfl rfl ?_
        obtain ⟨L73, eL73⟩ : ∃ q : jL, q = jSto1 L67 1 (.int (i32 (r72))) := ⟨_, rfl⟩
        rw [← eL73]
        have g74 : jGet L73 0 = some (.int (i32 (op))) := eL73 ▸ jg_ne (by decide) g68 rfl
        have g75 : jGet L73 2 = some (.int (i32 (2))) := eL73 ▸ jg_ne (by decide) g70 rfl
        have g76 : jGet L73 1 = some (.int (i32 (r72))) := eL73 ▸ jg_eq
        clear eL73
        exact k_LCoder_lengthOf_at_34 (X := X) (d := d) (R := R) (m := m) (tg := tg) (ln := ln) (F := F) (op := op) (hd := hd) (hC := hC) (h_op := h_op) L73 (r72) (2) g74 g76 g75 (by omega) (by omega) (by omega) (by omega)
set_option maxRecDepth 20000 in
set_option maxHeartbeats 4000000 in
theorem k_LCoder_originOf {X : jX} {dd : Nat} {R : Nat → jC} {m : Nat} {tg ln : Int → Int} {F : Int → Int → Int} {me k : Int} (hd : 2 ≤ dd) (hC : HC 0 m tg ln F) (o_me : own m me) (t_me : tg me = 2) (h_k : (-2147483648 : Int) ≤ k ∧ k ≤ 2147483647) (p_0 : 0 ≤ k) (p_1 : k < F me (7 : Int)) (p_2 : F me (7 : Int) ≤ 6000) : wk X dd 54 [rv me, .int (i32 k)] (cV R m tg ln F) (fun o V_q => ∃ (r : Int), V_q = cV R m tg ln F ∧ o = .inl (some (.int (i32 r))) ∧ (-2147483648 ≤ r ∧ r ≤ 2147483647) ∧ True) := by
  obtain ⟨d, rfl⟩ : ∃ d, dd = d + 1 := ⟨dd - 1, by omega⟩
  refine wk_of (e := jm54) rfl (by rw [jS_r, jS_i, jS_0]; exact Nat.le_of_ble_eq_true rfl) ?_
  rw [la_r, la_i, la_0]
  show wj X d jm54 (0, [(0, rv (me)), (1, .int (i32 (k)))], [], cV R m tg ln F) _
  obtain ⟨L0, eL0⟩ : ∃ q : jL, q = [(0, rv (me)), (1, .int (i32 (k)))] := ⟨_, rfl⟩
  rw [← eL0]
  have g1 : jGet L0 0 = some (rv (me)) := eL0 ▸ (rfl : jGet [(0, rv (me)), (1, .int (i32 (k)))] 0 = some (rv (me)))
  have g2 : jGet L0 1 = some (.int (i32 (k))) := eL0 ▸ (rfl : jGet [(0, rv (me)), (1, .int (i32 (k)))] 1 = some (.int (i32 (k))))
  clear eL0
  refine jx_ld (pc_q := 1) (l_q := L0) (st_q := [rv (me)]) rfl (jl_rvn g1) ?_
  refine cx_gr (pc_q := 4) (c := 1) (q := 3) (v := F (me) (3 : Int)) rfl rfl (by decide) (by decide) rfl rfl o_me t_me rfl ?_
  have y3 : own m (F (me) (3 : Int)) ∧ tg (F (me) (3 : Int)) = 21 ∧ ((6000 : Int) ≠ 0 → ln (F (me) (3 : Int)) = 6000) := by have z := HC_n (c := 1) (q := 3) hC o_me t_me (own_z o_me) (by decide) rfl; rw [show F (me) ((3 : Nat) : Int) = F (me) (3 : Int) from rfl] at z; exact ⟨z.1, z.2.1, z.2.2.1⟩
  have ly3 : ln (F (me) (3 : Int)) = 6000 := y3.2.2 (by decide)
  refine jx_ld (pc_q := 5) (l_q := L0) (st_q := [.int (i32 (k)), rv (F (me) (3 : Int))]) rfl (jl_iloadn g2) ?_
  have b4 := HC_l hC y3.1 y3.2.1 (by decide)
  refine cx_ial (pc_q := 6) (z := k) rfl rfl y3.1 y3.2.1 (by omega) (by omega) (by omega) ?_
  have b5 : (-2147483648 : Int) ≤ F (F (me) (3 : Int)) (k) ∧ F (F (me) (3 : Int)) (k) ≤ 2147483647 := by have z := HC_ei (j := k) hC y3.1 (by rw [y3.2.1]; decide) (by omega); exact z
  refine jx_if_lt (pc_q := 9) (tg := 20) rfl rfl rfl (by omega) (by omega) (fun h6 => ?_) (fun h6 => ?_)
  · have _q := h6
    refine jx_ld (pc_q := 21) (l_q := L0) (st_q := [rv (me)]) rfl (jl_rvn g1) ?_
    refine cx_gr (pc_q := 24) (c := 1) (q := 3) (v := F (me) (3 : Int)) rfl rfl (by decide) (by decide) rfl rfl o_me t_me rfl ?_
    refine jx_ld (pc_q := 25) (l_q := L0) (st_q := [.int (i32 (k)), rv (F (me) (3 : Int))]) rfl (jl_iloadn g2) ?_
    refine cx_ial (pc_q := 26) (z := k) rfl rfl y3.1 y3.2.1 (by omega) (by omega) (by omega) ?_
    refine jx_ar (pc_q := 27) (st_q := [.int (i32 (-1)), .int (i32 (F (F (me) (3 : Int)) (k)))]) rfl rfl rfl rfl ?_
    refine jx_icmp_ne (pc_q := 30) (tg := 36) rfl rfl rfl (by omega) (by omega) (by decide) (by decide) (fun h7 => ?_) (fun h7 => ?_)
    · have _q := h7
      refine jx_ld (pc_q := 37) (l_q := L0) (st_q := [.int (i32 (k))]) rfl (jl_iloadn g2) ?_
      refine jx_ar (pc_q := 38) (st_q := [.int (i32 (2)), .int (i32 (k))]) rfl rfl rfl rfl ?_
      refine jx_add (pc_q := 39) rfl rfl ?_
      refine jx_ld (pc_q := 40) (l_q := jSto1 L0 2 (.int (i32 ((k + 2))))) (st_q := []) rfl rfl ?_
      obtain ⟨L8, eL8⟩ : ∃ q : jL, q = jSto1 L0 2 (.int (i32 ((k + 2)))) := ⟨_, rfl⟩
      rw [← eL8]
      have g9 : jGet L8 0 = some (rv (me)) := eL8 ▸ jg_nr (by decide) g1
      have g10 : jGet L8 1 = some (.int (i32 (k))) := eL8 ▸ jg_ne (by decide) g2 rfl
      have g11 : jGet L8 2 = some (.int (i32 ((k + 2)))) := eL8 ▸ jg_eq
      clear eL8
      refine jx_ld (pc_q := 41) (l_q := L8) (st_q := [rv (me)]) rfl (jl_rvn g9) ?_
      refine cx_gr (pc_q := 44) (c := 1) (q := 5) (v := F (me) (5 : Int)) rfl rfl (by decide) (by decide) rfl rfl o_me t_me rfl ?_
      have y12 : own m (F (me) (5 : Int)) ∧ tg (F (me) (5 : Int)) = 21 ∧ ((6001 : Int) ≠ 0 → ln (F (me) (5 : Int)) = 6001) := by have z := HC_n (c := 1) (q := 5) hC o_me t_me (own_z o_me) (by decide) rfl; rw [show F (me) ((5 : Nat) : Int) = F (me) (5 : Int) from rfl] at z; exact ⟨z.1, z.2.1, z.2.2.1⟩
      have ly12 : ln (F (me) (5 : Int)) = 6001 := y12.2.2 (by decide)
      refine jx_ld (pc_q := 45) (l_q := L8) (st_q := [.int (i32 ((k + 2))), rv (F (me) (5 : Int))]) rfl (jl_iloadn g11) ?_
      refine jx_ld (pc_q := 46) (l_q := L8) (st_q := [rv (me), .int (i32 ((k + 2))), rv (F (me) (5 : Int))]) rfl (jl_rvn g9) ?_
      refine cx_gi (pc_q := 49) (c := 1) (q := 7) (v := F (me) (7 : Int)) rfl rfl (by decide) (by decide) (Or.inl rfl) rfl o_me t_me rfl ?_
      have b13 : (0 : Int) ≤ F (me) (7 : Int) ∧ F (me) (7 : Int) ≤ 6000 := by have z := HC_i (c := 1) (q := 7) hC o_me t_me (by decide) rfl; rw [show F (me) ((7 : Nat) : Int) = F (me) (7 : Int) from rfl] at z; exact z
      refine cx_st (st := [rv (F (me) (5 : Int))]) (as := [.int (i32 ((k + 2))), .int (i32 (F (me) (7 : Int)))]) rfl rfl rfl ⟨rfl, (by rw [jS_r, jS_0]; exact Nat.le_of_ble_eq_true rfl)⟩ rfl (k_java_lang_Math_min (dd := d) (R := R) (u := 0) (m := m) (tg := tg) (ln := ln) (F := F) (a := (k + 2)) (b := F (me) (7 : Int)) (hd := by omega) (hC := hC) (h_a := by omega) (h_b := by omega)) (fun o V_q hq => ?_)
      obtain ⟨r14, rfl, rfl, b15, p16, p17, p18, -⟩ := hq
      refine Or.inr (Or.inl ⟨_, rfl, ?_⟩)
      have b19 := HC_l hC y12.1 y12.2.1 (by decide)
      refine cx_ial (pc_q := 53) (z := r14) rfl rfl y12.1 y12.2.1 (by omega) (by omega) (by omega) ?_
      have b20 : (0 : Int) ≤ F (F (me) (5 : Int)) (r14) ∧ F (F (me) (5 : Int)) (r14) ≤ 1000000 := by have z := HC_e (j := r14) hC y12.1 (by rw [y12.2.1]; decide) (by omega); rw [(show F (F (me) (5 : Int)) (-1) = 2 by have z := HC_n (c := 1) (q := 5) hC o_me t_me (own_z o_me) (by decide) rfl; rw [show F (me) ((5 : Nat) : Int) = F (me) (5 : Int) from rfl] at z; exact z.2.2.2 (by decide))] at z; exact z
      refine jx_rt (v := some (.int (i32 (F (F (me) (5 : Int)) (r14))))) rfl rfl rfl rfl rfl rfl ?_
      exact ⟨(F (F (me) (5 : Int)) (r14)), rfl, rfl, by omega, trivial⟩
    · have _q := h7
      refine jx_ld (pc_q := 31) (l_q := L0) (st_q := [.int (i32 (k))]) rfl (jl_iloadn g2) ?_
      refine jx_ar (pc_q := 32) (st_q := [.int (i32 (1)), .int (i32 (k))]) rfl rfl rfl rfl ?_
      refine jx_add (pc_q := 33) rfl rfl ?_
      refine jx_go (tg := 39) rfl rfl ?_
      refine jx_ld (pc_q := 40) (l_q := jSto1 L0 2 (.int (i32 ((k + 1))))) (st_q := []) rfl rfl ?_
      obtain ⟨L21, eL21⟩ : ∃ q : jL, q = jSto1 L0 2 (.int (i32 ((k + 1)))) := ⟨_, rfl⟩
      rw [← eL21]
      have g22 : jGet L21 0 = some (rv (me)) := eL21 ▸ jg_nr (by decide) g1
      have g23 : jGet L21 1 = some (.int (i32 (k))) := eL21 ▸ jg_ne (by decide) g2 rfl
      have g24 : jGet L21 2 = some (.int (i32 ((k + 1)))) := eL21 ▸ jg_eq
      clear eL21
      refine jx_ld (pc_q := 41) (l_q := L21) (st_q := [rv (me)]) rfl (jl_rvn g22) ?_
      refine cx_gr (pc_q := 44) (c := 1) (q := 5) (v := F (me) (5 : Int)) rfl rfl (by decide) (by decide) rfl rfl o_me t_me rfl ?_
      have y25 : own m (F (me) (5 : Int)) ∧ tg (F (me) (5 : Int)) = 21 ∧ ((6001 : Int) ≠ 0 → ln (F (me) (5 : Int)) = 6001) := by have z := HC_n (c := 1) (q := 5) hC o_me t_me (own_z o_me) (by decide) rfl; rw [show F (me) ((5 : Nat) : Int) = F (me) (5 : Int) from rfl] at z; exact ⟨z.1, z.2.1, z.2.2.1⟩
      have ly25 : ln (F (me) (5 : Int)) = 6001 := y25.2.2 (by decide)
      refine jx_ld (pc_q := 45) (l_q := L21) (st_q := [.int (i32 ((k + 1))), rv (F (me) (5 : Int))]) rfl (jl_iloadn g24) ?_
      refine jx_ld (pc_q := 46) (l_q := L21) (st_q := [rv (me), .int (i32 ((k + 1))), rv (F (me) (5 : Int))]) rfl (jl_rvn g22) ?_
      refine cx_gi (pc_q := 49) (c := 1) (q := 7) (v := F (me) (7 : Int)) rfl rfl (by decide) (by decide) (Or.inl rfl) rfl o_me t_me rfl ?_
      have b26 : (0 : Int) ≤ F (me) (7 : Int) ∧ F (me) (7 : Int) ≤ 6000 := by have z := HC_i (c := 1) (q := 7) hC o_me t_me (by decide) rfl; rw [show F (me) ((7 : Nat) : Int) = F (me) (7 : Int) from rfl] at z; exact z
      refine cx_st (st := [rv (F (me) (5 : Int))]) (as := [.int (i32 ((k + 1))), .int (i32 (F (me) (7 : Int)))]) rfl rfl rfl ⟨rfl, (by rw [jS_r, jS_0]; exact Nat.le_of_ble_eq_true rfl)⟩ rfl (k_java_lang_Math_min (dd := d) (R := R) (u := 0) (m := m) (tg := tg) (ln := ln) (F := F) (a := (k + 1)) (b := F (me) (7 : Int)) (hd := by omega) (hC := hC) (h_a := by omega) (h_b := by omega)) (fun o V_q hq => ?_)
      obtain ⟨r27, rfl, rfl, b28, p29, p30, p31, -⟩ := hq
      refine Or.inr (Or.inl ⟨_, rfl, ?_⟩)
      have b32 := HC_l hC y25.1 y25.2.1 (by decide)
      refine cx_ial (pc_q := 53) (z := r27) rfl rfl y25.1 y25.2.1 (by omega) (by omega) (by omega) ?_
      have b33 : (0 : Int) ≤ F (F (me) (5 : Int)) (r27) ∧ F (F (me) (5 : Int)) (r27) ≤ 1000000 := by have z := HC_e (j := r27) hC y25.1 (by rw [y25.2.1]; decide) (by omega); rw [(show F (F (me) (5 : Int)) (-1) = 2 by have z := HC_n (c := 1) (q := 5) hC o_me t_me (own_z o_me) (by decide) rfl; rw [show F (me) ((5 : Nat) : Int) = F (me) (5 : Int) from rfl] at z; exact z.2.2.2 (by decide))] at z; exact z
      refine jx_rt (v := some (.int (i32 (F (F (me) (5 : Int)) (r27))))) rfl rfl rfl rfl rfl rfl ?_
      exact ⟨(F (F (me) (5 : Int)) (r27)), rfl, rfl, by omega, trivial⟩
  · have _q := h6
    refine jx_ld (pc_q := 10) (l_q := L0) (st_q := [rv (me)]) rfl (jl_rvn g1) ?_
    refine jx_ld (pc_q := 11) (l_q := L0) (st_q := [rv (me), rv (me)]) rfl (jl_rvn g1) ?_
    refine cx_gr (pc_q := 14) (c := 1) (q := 3) (v := F (me) (3 : Int)) rfl rfl (by decide) (by decide) rfl rfl o_me t_me rfl ?_
    refine jx_ld (pc_q := 15) (l_q := L0) (st_q := [.int (i32 (k)), rv (F (me) (3 : Int)), rv (me)]) rfl (jl_iloadn g2) ?_
    refine cx_ial (pc_q := 16) (z := k) rfl rfl y3.1 y3.2.1 (by omega) (by omega) (by omega) ?_
    refine cx_vi (c := 1) (a := me) (st := []) (as := [.int (i32 (F (F (me) (3 : Int)) (k)))]) rfl rfl rfl o_me t_me (by decide) rfl ⟨rfl, rfl, (Nat.le_of_ble_eq_true rfl)⟩ rfl (k_LCoder_placeOf (dd := d) (R := R) (m := m) (tg := tg) (ln := ln) (F := F) (me := me) (lb := F (F (me) (3 : Int)) (k)) (hd := by omega) (hC := hC) (o_me := o_me) (t_me := t_me) (h_lb := by omega)) (fun o V_q hq => ?_)
    obtain ⟨r34, rfl, rfl, b35, -⟩ := hq
    refine Or.inr (Or.inl ⟨_, rfl, ?_⟩)
    refine jx_rt (v := some (.int (i32 (r34)))) rfl rfl rfl rfl rfl rfl ?_
    exact ⟨(r34), rfl, rfl, by omega, trivial⟩
set_option maxRecDepth 20000 in
set_option maxHeartbeats 4000000 in
theorem k_LCoder_lengthen_at_70 {X : jX} {d : Nat} {R : Nat → jC} {m : Nat} {tg ln : Int → Int} {F : Int → Int → Int} {me : Int} (hd : 3 ≤ d + 1) (hC : HC 0 m tg ln F) (o_me : own m me) (t_me : tg me = 2) : ∀ (mm : Nat) (L : jL) (Fx : Int → Int → Int) (mo k : Int), (F me (7 : Int) - k).toNat = mm → jGet L 0 = some (rv (me)) → jGet L 1 = some (.int (i32 mo)) → jGet L 2 = some (.int (i32 k)) → HC 0 m tg ln Fx → Fq 0 [(2, 11), (20, -5), (21, -5)] m tg F Fx → ((-2147483648 : Int) ≤ mo ∧ mo ≤ 2147483647) → ((-2147483648 : Int) ≤ k ∧ k ≤ 2147483647) → (0 ≤ k) → (0 ≤ mo) → (mo ≤ 1) → wj X d jm53 (70, L, [], cV R m tg ln Fx) (fun o V_q => ∃ (F_q : Int → Int → Int) (r : Int), V_q = cV R m tg ln F_q ∧ o = .inl (some (.int (i32 r))) ∧ HC 0 m tg ln F_q ∧ Fq 0 [(2, 11), (20, -5), (21, -5)] m tg F F_q ∧ (0 ≤ r ∧ r ≤ 1) ∧ True) := by
  intro mm
  induction mm using Nat.strongRecOn with
  | ind mm ih =>
    intro L Fx mo k hmm gL_0 gL_1 gL_2 hCx hMx rx_mo rx_k iv_0 iv_1 iv_2
    refine jx_ld (pc_q := 71) (l_q := L) (st_q := [.int (i32 (k))]) rfl (jl_iloadn gL_2) ?_
    refine jx_ld (pc_q := 72) (l_q := L) (st_q := [rv (me), .int (i32 (k))]) rfl (jl_rvn gL_0) ?_
    refine cx_gi (pc_q := 75) (c := 1) (q := 7) (v := F (me) (7 : Int)) rfl rfl (by decide) (by decide) (Or.inl rfl) rfl o_me t_me (show Fx (me) (7 : Int) = F (me) (7 : Int) from hMx _ _ o_me (own_z o_me) (by rw [t_me]; rfl)) ?_
    have b1 : (0 : Int) ≤ F (me) (7 : Int) ∧ F (me) (7 : Int) ≤ 6000 := by have z := HC_i (c := 1) (q := 7) hCx o_me t_me (by decide) rfl; rw [show Fx (me) ((7 : Nat) : Int) = F (me) (7 : Int) from (show Fx (me) (7 : Int) = F (me) (7 : Int) from hMx _ _ o_me (own_z o_me) (by rw [t_me]; rfl))] at z; exact z
    refine jx_icmp_ge (pc_q := 78) (tg := 146) rfl rfl rfl (by omega) (by omega) (by omega) (by omega) (fun h2 => ?_) (fun h2 => ?_)
    · have _q := h2
      refine jx_ld (pc_q := 147) (l_q := L) (st_q := [.int (i32 (mo))]) rfl (jl_iloadn gL_1) ?_
      refine jx_rt (v := some (.int (i32 (mo)))) rfl rfl rfl rfl rfl (by first | rfl | exact jRet_b (by omega)) ?_
      exact ⟨Fx, (mo), rfl, rfl, hCx, hMx, by omega, trivial⟩
    · have _q := h2
      refine jx_ld (pc_q := 79) (l_q := L) (st_q := [rv (me)]) rfl (jl_rvn gL_0) ?_
      refine cx_gr (pc_q := 82) (c := 1) (q := 2) (v := F (me) (2 : Int)) rfl rfl (by decide) (by decide) rfl rfl o_me t_me (show Fx (me) (2 : Int) = F (me) (2 : Int) from hMx _ _ o_me (own_z o_me) (by rw [t_me]; rfl)) ?_
      have y3 : own m (F (me) (2 : Int)) ∧ tg (F (me) (2 : Int)) = 21 ∧ ((6000 : Int) ≠ 0 → ln (F (me) (2 : Int)) = 6000) := by have z := HC_n (c := 1) (q := 2) hCx o_me t_me (own_z o_me) (by decide) rfl; rw [show Fx (me) ((2 : Nat) : Int) = F (me) (2 : Int) from (show Fx (me) (2 : Int) = F (me) (2 : Int) from hMx _ _ o_me (own_z o_me) (by rw [t_me]; rfl))] at z; exact ⟨z.1, z.2.1, z.2.2.1⟩
      have ly3 : ln (F (me) (2 : Int)) = 6000 := y3.2.2 (by decide)
      refine jx_ld (pc_q := 83) (l_q := L) (st_q := [.int (i32 (k)), rv (F (me) (2 : Int))]) rfl (jl_iloadn gL_2) ?_
      have b4 := HC_l hCx y3.1 y3.2.1 (by decide)
      refine cx_ial (pc_q := 84) (z := k) rfl rfl y3.1 y3.2.1 (by omega) (by omega) (by omega) ?_
      have b5 : (-2147483648 : Int) ≤ Fx (F (me) (2 : Int)) (k) ∧ Fx (F (me) (2 : Int)) (k) ≤ 2147483647 := by have z := HC_ei (j := k) hCx y3.1 (by rw [y3.2.1]; decide) (by omega); exact z
      refine jx_ar (pc_q := 85) (st_q := [.int (i32 (-1)), .int (i32 (Fx (F (me) (2 : Int)) (k)))]) rfl rfl rfl rfl ?_
      refine jx_icmp_eq (pc_q := 88) (tg := 140) rfl rfl rfl (by omega) (by omega) (by decide) (by decide) (fun h6 => ?_) (fun h6 => ?_)
      · have _q := h6
        refine jx_inc (pc_q := 143) (l_q := jSto1 L 2 (.int (i32 (k + (1))))) (x := k) rfl gL_2 (by decide) rfl rfl ?_
        obtain ⟨L7, eL7⟩ : ∃ q : jL, q = jSto1 L 2 (.int (i32 ((k + (1))))) := ⟨_, rfl⟩
        rw [← eL7]
        have g8 : jGet L7 0 = some (rv (me)) := eL7 ▸ jg_nr (by decide) gL_0
        have g9 : jGet L7 1 = some (.int (i32 (mo))) := eL7 ▸ jg_ne (by decide) gL_1 rfl
        have g10 : jGet L7 2 = some (.int (i32 ((k + (1))))) := eL7 ▸ jg_eq
        clear eL7
        refine jx_go (tg := 70) rfl rfl ?_
        exact ih _ (by omega) L7 Fx (mo) ((k + (1))) rfl g8 g9 g10 hCx hMx (by omega) (by omega) (by omega) (by omega) (by omega)
      · have _q := h6
        refine jx_ld (pc_q := 89) (l_q := L) (st_q := [rv (me)]) rfl (jl_rvn gL_0) ?_
        refine cx_gr (pc_q := 92) (c := 1) (q := 1) (v := F (me) (1 : Int)) rfl rfl (by decide) (by decide) rfl rfl o_me t_me (show Fx (me) (1 : Int) = F (me) (1 : Int) from hMx _ _ o_me (own_z o_me) (by rw [t_me]; rfl)) ?_
        have y11 : own m (F (me) (1 : Int)) ∧ tg (F (me) (1 : Int)) = 21 ∧ ((6000 : Int) ≠ 0 → ln (F (me) (1 : Int)) = 6000) := by have z := HC_n (c := 1) (q := 1) hCx o_me t_me (own_z o_me) (by decide) rfl; rw [show Fx (me) ((1 : Nat) : Int) = F (me) (1 : Int) from (show Fx (me) (1 : Int) = F (me) (1 : Int) from hMx _ _ o_me (own_z o_me) (by rw [t_me]; rfl))] at z; exact ⟨z.1, z.2.1, z.2.2.1⟩
        have ly11 : ln (F (me) (1 : Int)) = 6000 := y11.2.2 (by decide)
        refine jx_ld (pc_q := 93) (l_q := L) (st_q := [.int (i32 (k)), rv (F (me) (1 : Int))]) rfl (jl_iloadn gL_2) ?_
        refine jx_ld (pc_q := 94) (l_q := L) (st_q := [rv (me), .int (i32 (k)), rv (F (me) (1 : Int))]) rfl (jl_rvn gL_0) ?_
        refine jx_ld (pc_q := 95) (l_q := L) (st_q := [rv (me), rv (me), .int (i32 (k)), rv (F (me) (1 : Int))]) rfl (jl_rvn gL_0) ?_
        refine cx_gr (pc_q := 98) (c := 1) (q := 2) (v := F (me) (2 : Int)) rfl rfl (by decide) (by decide) rfl rfl o_me t_me (show Fx (me) (2 : Int) = F (me) (2 : Int) from hMx _ _ o_me (own_z o_me) (by rw [t_me]; rfl)) ?_
        refine jx_ld (pc_q := 99) (l_q := L) (st_q := [.int (i32 (k)), rv (F (me) (2 : Int)), rv (me), .int (i32 (k)), rv (F (me) (1 : Int))]) rfl (jl_iloadn gL_2) ?_
        refine cx_ial (pc_q := 100) (z := k) rfl rfl y3.1 y3.2.1 (by omega) (by omega) (by omega) ?_
        refine cx_vi (c := 1) (a := me) (st := [.int (i32 (k)), rv (F (me) (1 : Int))]) (as := [.int (i32 (Fx (F (me) (2 : Int)) (k)))]) rfl rfl rfl o_me t_me (by decide) rfl ⟨rfl, rfl, (by rw [jS_i, jS_r, jS_0]; exact Nat.le_of_ble_eq_true rfl)⟩ rfl (k_LCoder_placeOf (dd := d) (R := R) (m := m) (tg := tg) (ln := ln) (F := Fx) (me := me) (lb := Fx (F (me) (2 : Int)) (k)) (hd := by omega) (hC := hCx) (o_me := o_me) (t_me := t_me) (h_lb := by omega)) (fun o V_q hq => ?_)
        obtain ⟨r12, rfl, rfl, b13, -⟩ := hq
        refine Or.inr (Or.inl ⟨_, rfl, ?_⟩)
        refine jx_ld (pc_q := 104) (l_q := L) (st_q := [rv (me), .int (i32 (r12)), .int (i32 (k)), rv (F (me) (1 : Int))]) rfl (jl_rvn gL_0) ?_
        refine jx_ld (pc_q := 105) (l_q := L) (st_q := [.int (i32 (k)), rv (me), .int (i32 (r12)), .int (i32 (k)), rv (F (me) (1 : Int))]) rfl (jl_iloadn gL_2) ?_
        have q14 : Fx (me) (7 : Int) = F (me) (7 : Int) := (show Fx (me) (7 : Int) = F (me) (7 : Int) from hMx _ _ o_me (own_z o_me) (by rw [t_me]; rfl))
        refine cx_vi (c := 1) (a := me) (st := [.int (i32 (r12)), .int (i32 (k)), rv (F (me) (1 : Int))]) (as := [.int (i32 (k))]) rfl rfl rfl o_me t_me (by decide) rfl ⟨rfl, rfl, (by rw [jS_i, jS_i, jS_r, jS_0]; exact Nat.le_of_ble_eq_true rfl)⟩ rfl (k_LCoder_originOf (dd := d) (R := R) (m := m) (tg := tg) (ln := ln) (F := Fx) (me := me) (k := k) (hd := by omega) (hC := hCx) (o_me := o_me) (t_me := t_me) (h_k := by omega) (p_0 := by omega) (p_1 := by omega) (p_2 := by omega)) (fun o V_q hq => ?_)
        obtain ⟨r15, rfl, rfl, b16, -⟩ := hq
        refine Or.inr (Or.inl ⟨_, rfl, ?_⟩)
        refine jx_sub (pc_q := 109) rfl rfl ?_
        obtain ⟨z17, ez17⟩ : ∃ q, q = (i32 ((r12 - r15))).toInt := ⟨_, rfl⟩
        have bz17 : (-2147483648 : Int) ≤ z17 ∧ z17 ≤ 2147483647 := ez17 ▸ i32_rg _
        rw [show i32 ((r12 - r15)) = i32 z17 by rw [ez17, i32_of]]
        clear ez17
        have b18 := HC_l hCx y11.1 y11.2.1 (by decide)
        refine cx_ias (pc_q := 110) (z := k) (y := z17) rfl rfl y11.1 y11.2.1 (by omega) (by omega) (by omega) ?_
        obtain ⟨F19, eF19⟩ : ∃ q, q = uF Fx (F (me) (1 : Int)) (k) (z17) := ⟨_, rfl⟩
        rw [← eF19]
        have hC20 : HC 0 m tg ln F19 := by rw [eF19]; exact HC_pi hCx y11.1 y11.2.1 (by decide) (by omega) (by rw [(show Fx (F (me) (1 : Int)) (-1) = 0 by have z := HC_n (c := 1) (q := 1) hCx o_me t_me (own_z o_me) (by decide) rfl; rw [show Fx (me) ((1 : Nat) : Int) = F (me) (1 : Int) from (show Fx (me) (1 : Int) = F (me) (1 : Int) from hMx _ _ o_me (own_z o_me) (by rw [t_me]; rfl))] at z; exact z.2.2.2 (by decide))]; exact ⟨(by show (-2147483648 : Int) ≤ _; omega), (by show _ ≤ (2147483647 : Int); omega)⟩)
        have hM21 : Fq 0 [(2, 11), (20, -5), (21, -5)] m tg F F19 := by rw [eF19]; exact Fq_p hMx y11.2.1 (fun _ => rfl) (inL_a rfl (by omega) rfl)
        refine jx_ld (pc_q := 111) (l_q := L) (st_q := [rv (me)]) rfl (jl_rvn gL_0) ?_
        refine cx_gr (pc_q := 114) (c := 1) (q := 1) (v := F (me) (1 : Int)) rfl rfl (by decide) (by decide) rfl rfl o_me t_me ((show F19 (me) (1 : Int) = Fx (me) (1 : Int) from by rw [eF19]; exact uF_a (fun w => by have q1 := t_me; have q2 := y11.2.1; rw [w, q2] at q1; exact absurd q1 (by decide))).trans (show Fx (me) (1 : Int) = F (me) (1 : Int) from hMx _ _ o_me (own_z o_me) (by rw [t_me]; rfl))) ?_
        refine jx_ld (pc_q := 115) (l_q := L) (st_q := [.int (i32 (k)), rv (F (me) (1 : Int))]) rfl (jl_iloadn gL_2) ?_
        refine cx_ial (pc_q := 116) (z := k) rfl rfl y11.1 y11.2.1 (by omega) (by omega) (by omega) ?_
        rw [show F19 (F (me) (1 : Int)) (k) = z17 from (show F19 (F (me) (1 : Int)) (k) = z17 from by rw [eF19]; exact uF_e)]
        refine cx_st (st := []) (as := [.int (i32 (z17))]) rfl rfl rfl ⟨rfl, (Nat.le_of_ble_eq_true rfl)⟩ rfl (k_LCoder_lengthOf (dd := d) (R := R) (m := m) (tg := tg) (ln := ln) (F := F19) (op := z17) (hd := by omega) (hC := hC20) (h_op := by omega)) (fun o V_q hq => ?_)
        obtain ⟨r22, rfl, rfl, b23, -⟩ := hq
        refine Or.inr (Or.inl ⟨_, rfl, ?_⟩)
        refine jx_ld (pc_q := 120) (l_q := jSto1 L 3 (.int (i32 (r22)))) (st_q := []) rfl rfl ?_
        obtain ⟨L24, eL24⟩ : ∃ q : jL, q = jSto1 L 3 (.int (i32 (r22))) := ⟨_, rfl⟩
        rw [← eL24]
        have g25 : jGet L24 0 = some (rv (me)) := eL24 ▸ jg_nr (by decide) gL_0
        have g26 : jGet L24 1 = some (.int (i32 (mo))) := eL24 ▸ jg_ne (by decide) gL_1 rfl
        have g27 : jGet L24 2 = some (.int (i32 (k))) := eL24 ▸ jg_ne (by decide) gL_2 rfl
        have g28 : jGet L24 3 = some (.int (i32 (r22))) := eL24 ▸ jg_eq
        clear eL24
        refine jx_ld (pc_q := 121) (l_q := L24) (st_q := [.int (i32 (r22))]) rfl (jl_iloadn g28) ?_
        refine jx_ld (pc_q := 122) (l_q := L24) (st_q := [rv (me), .int (i32 (r22))]) rfl (jl_rvn g25) ?_
        refine cx_gr (pc_q := 125) (c := 1) (q := 4) (v := F (me) (4 : Int)) rfl rfl (by decide) (by decide) rfl rfl o_me t_me ((show F19 (me) (4 : Int) = Fx (me) (4 : Int) from by rw [eF19]; exact uF_a (fun w => by have q1 := t_me; have q2 := y11.2.1; rw [w, q2] at q1; exact absurd q1 (by decide))).trans (show Fx (me) (4 : Int) = F (me) (4 : Int) from hMx _ _ o_me (own_z o_me) (by rw [t_me]; rfl))) ?_
        have y29 : own m (F (me) (4 : Int)) ∧ tg (F (me) (4 : Int)) = 20 ∧ ((6000 : Int) ≠ 0 → ln (F (me) (4 : Int)) = 6000) := by have z := HC_n (c := 1) (q := 4) hC20 o_me t_me (own_z o_me) (by decide) rfl; rw [show F19 (me) ((4 : Nat) : Int) = F (me) (4 : Int) from ((show F19 (me) (4 : Int) = Fx (me) (4 : Int) from by rw [eF19]; exact uF_a (fun w => by have q1 := t_me; have q2 := y11.2.1; rw [w, q2] at q1; exact absurd q1 (by decide))).trans (show Fx (me) (4 : Int) = F (me) (4 : Int) from hMx _ _ o_me (own_z o_me) (by rw [t_me]; rfl)))] at z; exact ⟨z.1, z.2.1, z.2.2.1⟩
        have ly29 : ln (F (me) (4 : Int)) = 6000 := y29.2.2 (by decide)
        refine jx_ld (pc_q := 126) (l_q := L24) (st_q := [.int (i32 (k)), rv (F (me) (4 : Int)), .int (i32 (r22))]) rfl (jl_iloadn g27) ?_
        have b30 := HC_l hC20 y29.1 y29.2.1 (by decide)
        refine cx_bal (pc_q := 127) (z := k) rfl rfl y29.1 (Or.inl y29.2.1) (by omega) (by omega) (by omega) ?_
        rw [show F19 (F (me) (4 : Int)) (k) = Fx (F (me) (4 : Int)) (k) from (show F19 (F (me) (4 : Int)) (k) = Fx (F (me) (4 : Int)) (k) from by rw [eF19]; exact uF_a (fun w => by have q1 := y29.2.1; have q2 := y11.2.1; rw [w, q2] at q1; exact absurd q1 (by decide)))]
        have b31 : (0 : Int) ≤ Fx (F (me) (4 : Int)) (k) ∧ Fx (F (me) (4 : Int)) (k) ≤ 127 := by have z := HC_e (j := k) hC20 y29.1 (by rw [y29.2.1]; decide) (by omega); rw [(show F19 (F (me) (4 : Int)) (-1) = 3 by have z := HC_n (c := 1) (q := 4) hC20 o_me t_me (own_z o_me) (by decide) rfl; rw [show F19 (me) ((4 : Nat) : Int) = F (me) (4 : Int) from ((show F19 (me) (4 : Int) = Fx (me) (4 : Int) from by rw [eF19]; exact uF_a (fun w => by have q1 := t_me; have q2 := y11.2.1; rw [w, q2] at q1; exact absurd q1 (by decide))).trans (show Fx (me) (4 : Int) = F (me) (4 : Int) from hMx _ _ o_me (own_z o_me) (by rw [t_me]; rfl)))] at z; exact z.2.2.2 (by decide))] at z; rw [show F19 (F (me) (4 : Int)) (k) = Fx (F (me) (4 : Int)) (k) from (show F19 (F (me) (4 : Int)) (k) = Fx (F (me) (4 : Int)) (k) from by rw [eF19]; exact uF_a (fun w => by have q1 := y29.2.1; have q2 := y11.2.1; rw [w, q2] at q1; exact absurd q1 (by decide)))] at z; exact z
        refine jx_icmp_le (pc_q := 130) (tg := 140) rfl rfl rfl (by omega) (by omega) (by omega) (by omega) (fun h32 => ?_) (fun h32 => ?_)
        · have _q := h32
          refine jx_inc (pc_q := 143) (l_q := jSto1 L24 2 (.int (i32 (k + (1))))) (x := k) rfl g27 (by decide) rfl rfl ?_
          obtain ⟨L33, eL33⟩ : ∃ q : jL, q = jSto1 L24 2 (.int (i32 ((k + (1))))) := ⟨_, rfl⟩
          rw [← eL33]
          have g34 : jGet L33 0 = some (rv (me)) := eL33 ▸ jg_nr (by decide) g25
          have g35 : jGet L33 1 = some (.int (i32 (mo))) := eL33 ▸ jg_ne (by decide) g26 rfl
          have g36 : jGet L33 3 = some (.int (i32 (r22))) := eL33 ▸ jg_ne (by decide) g28 rfl
          have g37 : jGet L33 2 = some (.int (i32 ((k + (1))))) := eL33 ▸ jg_eq
          clear eL33
          refine jx_go (tg := 70) rfl rfl ?_
          exact ih _ (by omega) L33 F19 (mo) ((k + (1))) rfl g34 g35 g37 hC20 hM21 (by omega) (by omega) (by omega) (by omega) (by omega)
        · have _q := h32
          refine jx_ld (pc_q := 131) (l_q := L24) (st_q := [rv (me)]) rfl (jl_rvn g25) ?_
          refine cx_gr (pc_q := 134) (c := 1) (q := 4) (v := F (me) (4 : Int)) rfl rfl (by decide) (by decide) rfl rfl o_me t_me ((show F19 (me) (4 : Int) = Fx (me) (4 : Int) from by rw [eF19]; exact uF_a (fun w => by have q1 := t_me; have q2 := y11.2.1; rw [w, q2] at q1; exact absurd q1 (by decide))).trans (show Fx (me) (4 : Int) = F (me) (4 : Int) from hMx _ _ o_me (own_z o_me) (by rw [t_me]; rfl))) ?_
          refine jx_ld (pc_q := 135) (l_q := L24) (st_q := [.int (i32 (k)), rv (F (me) (4 : Int))]) rfl (jl_iloadn g27) ?_
          refine jx_ld (pc_q := 136) (l_q := L24) (st_q := [.int (i32 (r22)), .int (i32 (k)), rv (F (me) (4 : Int))]) rfl (jl_iloadn g28) ?_
          refine cx_i2b (pc_q := 137) rfl rfl (fun r38 hr38 kr38 => ?_)
          have qr38 : r38 = r22 := kr38 (by omega) (by omega)
          refine cx_bas2 (pc_q := 138) (z := k) (y := r38) rfl rfl y29.1 y29.2.1 (by omega) (by omega) (by omega) (fun w39 hw39 kw39 => ?_)
          have qw39 : w39 = r38 := kw39 (by omega) (by omega)
          obtain ⟨F40, eF40⟩ : ∃ q, q = uF F19 (F (me) (4 : Int)) (k) (w39) := ⟨_, rfl⟩
          rw [← eF40]
          have hC41 : HC 0 m tg ln F40 := by rw [eF40]; exact HC_pi hC20 y29.1 y29.2.1 (by decide) (by omega) (by rw [(show F19 (F (me) (4 : Int)) (-1) = 3 by have z := HC_n (c := 1) (q := 4) hC20 o_me t_me (own_z o_me) (by decide) rfl; rw [show F19 (me) ((4 : Nat) : Int) = F (me) (4 : Int) from ((show F19 (me) (4 : Int) = Fx (me) (4 : Int) from by rw [eF19]; exact uF_a (fun w => by have q1 := t_me; have q2 := y11.2.1; rw [w, q2] at q1; exact absurd q1 (by decide))).trans (show Fx (me) (4 : Int) = F (me) (4 : Int) from hMx _ _ o_me (own_z o_me) (by rw [t_me]; rfl)))] at z; exact z.2.2.2 (by decide))]; exact ⟨(by show (0 : Int) ≤ _; omega), (by show _ ≤ (127 : Int); omega)⟩)
          have hM42 : Fq 0 [(2, 11), (20, -5), (21, -5)] m tg F F40 := by rw [eF40]; exact Fq_p hM21 y29.2.1 (fun _ => rfl) (inL_a rfl (by omega) rfl)
          refine jx_ar (pc_q := 139) (st_q := [.int (i32 (1))]) rfl rfl rfl rfl ?_
          refine jx_ld (pc_q := 140) (l_q := jSto1 L24 1 (.int (i32 (1)))) (st_q := []) rfl rfl ?_
          obtain ⟨L43, eL43⟩ : ∃ q : jL, q = jSto1 L24 1 (.int (i32 (1))) := ⟨_, rfl⟩
          rw [← eL43]
          have g44 : jGet L43 0 = some (rv (me)) := eL43 ▸ jg_nr (by decide) g25
          have g45 : jGet L43 2 = some (.int (i32 (k))) := eL43 ▸ jg_ne (by decide) g27 rfl
          have g46 : jGet L43 3 = some (.int (i32 (r22))) := eL43 ▸ jg_ne (by decide) g28 rfl
          have g47 : jGet L43 1 = some (.int (i32 (1))) := eL43 ▸ jg_eq
          clear eL43
          refine jx_inc (pc_q := 143) (l_q := jSto1 L43 2 (.int (i32 (k + (1))))) (x := k) rfl g45 (by decide) rfl rfl ?_
          obtain ⟨L48, eL48⟩ : ∃ q : jL, q = jSto1 L43 2 (.int (i32 ((k + (1))))) := ⟨_, rfl⟩
          rw [← eL48]
          have g49 : jGet L48 0 = some (rv (me)) := eL48 ▸ jg_nr (by decide) g44
          have g50 : jGet L48 3 = some (.int (i32 (r22))) := eL48 ▸ jg_ne (by decide) g46 rfl
          have g51 : jGet L48 1 = some (.int (i32 (1))) := eL48 ▸ jg_ne (by decide) g47 rfl
          have g52 : jGet L48 2 = some (.int (i32 ((k + (1))))) := eL48 ▸ jg_eq
          clear eL48
          refine jx_go (tg := 70) rfl rfl ?_
          exact ih _ (by omega) L48 F40 (1) ((k + (1))) rfl g49 g51 g52 hC41 hM42 (by omega) (by omega) (by omega) (by omega) (by omega)
set_option maxRecDepth 20000 in
set_option maxHeartbeats 4000000 in
theorem k_LCoder_lengthen_at_9 {X : jX} {d : Nat} {R : Nat → jC} {m : Nat} {tg ln : Int → Int} {F : Int → Int → Int} {me : Int} (hd : 3 ≤ d + 1) (hC : HC 0 m tg ln F) (o_me : own m me) (t_me : tg me = 2) : ∀ (mm : Nat) (L : jL) (Fx : Int → Int → Int) (k : Int), (F me (7 : Int) - k).toNat = mm → jGet L 0 = some (rv (me)) → jGet L 1 = some (.int (i32 k)) → HC 0 m tg ln Fx → Fq 0 [(2, 11), (20, -5), (21, -5)] m tg F Fx → ((-2147483648 : Int) ≤ k ∧ k ≤ 2147483647) → (0 ≤ k) → (Fx (F me (5 : Int)) k ≤ 127 * k) → wj X d jm53 (9, L, [], cV R m tg ln Fx) (fun o V_q => ∃ (F_q : Int → Int → Int) (r : Int), V_q = cV R m tg ln F_q ∧ o = .inl (some (.int (i32 r))) ∧ HC 0 m tg ln F_q ∧ Fq 0 [(2, 11), (20, -5), (21, -5)] m tg F F_q ∧ (0 ≤ r ∧ r ≤ 1) ∧ True) := by
  intro mm
  induction mm using Nat.strongRecOn with
  | ind mm ih =>
    intro L Fx k hmm gL_0 gL_1 hCx hMx rx_k iv_0 iv_1
    refine jx_ld (pc_q := 10) (l_q := L) (st_q := [.int (i32 (k))]) rfl (jl_iloadn gL_1) ?_
    refine jx_ld (pc_q := 11) (l_q := L) (st_q := [rv (me), .int (i32 (k))]) rfl (jl_rvn gL_0) ?_
    refine cx_gi (pc_q := 14) (c := 1) (q := 7) (v := F (me) (7 : Int)) rfl rfl (by decide) (by decide) (Or.inl rfl) rfl o_me t_me (show Fx (me) (7 : Int) = F (me) (7 : Int) from hMx _ _ o_me (own_z o_me) (by rw [t_me]; rfl)) ?_
    have b53 : (0 : Int) ≤ F (me) (7 : Int) ∧ F (me) (7 : Int) ≤ 6000 := by have z := HC_i (c := 1) (q := 7) hCx o_me t_me (by decide) rfl; rw [show Fx (me) ((7 : Nat) : Int) = F (me) (7 : Int) from (show Fx (me) (7 : Int) = F (me) (7 : Int) from hMx _ _ o_me (own_z o_me) (by rw [t_me]; rfl))] at z; exact z
    refine jx_icmp_ge (pc_q := 17) (tg := 44) rfl rfl rfl (by omega) (by omega) (by omega) (by omega) (fun h54 => ?_) (fun h54 => ?_)
    · have _q := h54
      refine jx_ld (pc_q := 45) (l_q := L) (st_q := [rv (me)]) rfl (jl_rvn gL_0) ?_
      refine cx_gr (pc_q := 48) (c := 1) (q := 5) (v := F (me) (5 : Int)) rfl rfl (by decide) (by decide) rfl rfl o_me t_me (show Fx (me) (5 : Int) = F (me) (5 : Int) from hMx _ _ o_me (own_z o_me) (by rw [t_me]; rfl)) ?_
      have y55 : own m (F (me) (5 : Int)) ∧ tg (F (me) (5 : Int)) = 21 ∧ ((6001 : Int) ≠ 0 → ln (F (me) (5 : Int)) = 6001) := by have z := HC_n (c := 1) (q := 5) hCx o_me t_me (own_z o_me) (by decide) rfl; rw [show Fx (me) ((5 : Nat) : Int) = F (me) (5 : Int) from (show Fx (me) (5 : Int) = F (me) (5 : Int) from hMx _ _ o_me (own_z o_me) (by rw [t_me]; rfl))] at z; exact ⟨z.1, z.2.1, z.2.2.1⟩
      have ly55 : ln (F (me) (5 : Int)) = 6001 := y55.2.2 (by decide)
      refine jx_ld (pc_q := 49) (l_q := L) (st_q := [rv (me), rv (F (me) (5 : Int))]) rfl (jl_rvn gL_0) ?_
      refine cx_gi (pc_q := 52) (c := 1) (q := 7) (v := F (me) (7 : Int)) rfl rfl (by decide) (by decide) (Or.inl rfl) rfl o_me t_me (show Fx (me) (7 : Int) = F (me) (7 : Int) from hMx _ _ o_me (own_z o_me) (by rw [t_me]; rfl)) ?_
      have b56 := HC_l hCx y55.1 y55.2.1 (by decide)
      refine cx_ial (pc_q := 53) (z := F (me) (7 : Int)) rfl rfl y55.1 y55.2.1 (by omega) (by omega) (by omega) ?_
      have b57 : (0 : Int) ≤ Fx (F (me) (5 : Int)) (F (me) (7 : Int)) ∧ Fx (F (me) (5 : Int)) (F (me) (7 : Int)) ≤ 1000000 := by have z := HC_e (j := F (me) (7 : Int)) hCx y55.1 (by rw [y55.2.1]; decide) (by omega); rw [(show Fx (F (me) (5 : Int)) (-1) = 2 by have z := HC_n (c := 1) (q := 5) hCx o_me t_me (own_z o_me) (by decide) rfl; rw [show Fx (me) ((5 : Nat) : Int) = F (me) (5 : Int) from (show Fx (me) (5 : Int) = F (me) (5 : Int) from hMx _ _ o_me (own_z o_me) (by rw [t_me]; rfl))] at z; exact z.2.2.2 (by decide))] at z; exact z
      refine jx_ar (pc_q := 56) (st_q := [.int (i32 (6000)), .int (i32 (Fx (F (me) (5 : Int)) (F (me) (7 : Int))))]) rfl rfl rfl rfl ?_
      refine jx_icmp_le (pc_q := 59) (tg := 66) rfl rfl rfl (by omega) (by omega) (by decide) (by decide) (fun h58 => ?_) (fun h58 => ?_)
      · have _q := h58
        refine jx_ar (pc_q := 67) (st_q := [.int (i32 (0))]) rfl rfl rfl rfl ?_
        refine jx_ld (pc_q := 68) (l_q := jSto1 L 1 (.int (i32 (0)))) (st_q := []) rfl rfl ?_
        obtain ⟨L59, eL59⟩ : ∃ q : jL, q = jSto1 L 1 (.int (i32 (0))) := ⟨_, rfl⟩
        rw [← eL59]
        have g60 : jGet L59 0 = some (rv (me)) := eL59 ▸ jg_nr (by decide) gL_0
        have g61 : jGet L59 1 = some (.int (i32 (0))) := eL59 ▸ jg_eq
        clear eL59
        refine jx_ar (pc_q := 69) (st_q := [.int (i32 (0))]) rfl rfl rfl rfl ?_
        refine jx_ld (pc_q := 70) (l_q := jSto1 L59 2 (.int (i32 (0)))) (st_q := []) rfl rfl ?_
        obtain ⟨L62, eL62⟩ : ∃ q : jL, q = jSto1 L59 2 (.int (i32 (0))) := ⟨_, rfl⟩
        rw [← eL62]
        have g63 : jGet L62 0 = some (rv (me)) := eL62 ▸ jg_nr (by decide) g60
        have g64 : jGet L62 1 = some (.int (i32 (0))) := eL62 ▸ jg_ne (by decide) g61 rfl
        have g65 : jGet L62 2 = some (.int (i32 (0))) := eL62 ▸ jg_eq
        clear eL62
        exact k_LCoder_lengthen_at_70 (X := X) (d := d) (R := R) (m := m) (tg := tg) (ln := ln) (F := F) (me := me) (hd := hd) (hC := hC) (o_me := o_me) (t_me := t_me) _ L62 Fx (0) (0) rfl g63 g64 g65 hCx hMx (by omega) (by omega) (by omega) (by omega) (by omega)
      · have _q := h58
        refine jx_ld (pc_q := 60) (l_q := L) (st_q := [rv (me)]) rfl (jl_rvn gL_0) ?_
        refine jx_ar (pc_q := 61) (st_q := [.int (i32 (1)), rv (me)]) rfl rfl rfl rfl ?_
        refine cx_pb (pc_q := 64) (c := 1) (q := 11) (qi := (11 : Int)) (z := 1) rfl rfl (by decide) (by decide) rfl rfl rfl (by decide) (by omega) rfl o_me t_me rfl ?_
        obtain ⟨F66, eF66⟩ : ∃ q, q = uF Fx (me) (11 : Int) (1) := ⟨_, rfl⟩
        rw [← eF66]
        have hC67 : HC 0 m tg ln F66 := by rw [eF66]; exact HC_fi (c := 1) (q := 11) hCx t_me (by decide) rfl (by omega) (by omega) ⟨fun w => absurd w (by decide), fun w => absurd w (by decide)⟩
        have hM68 : Fq 0 [(2, 11), (20, -5), (21, -5)] m tg F F66 := by rw [eF66]; exact Fq_p hMx t_me (fun _ => rfl) rfl
        refine jx_ar (pc_q := 65) (st_q := [.int (i32 (0))]) rfl rfl rfl rfl ?_
        refine jx_rt (v := some (.int (i32 (0)))) rfl rfl rfl rfl rfl (by first | rfl | exact jRet_b (by omega)) ?_
        exact ⟨F66, (0), rfl, rfl, hC67, hM68, by omega, trivial⟩
    · have _q := h54
      refine jx_ld (pc_q := 18) (l_q := L) (st_q := [rv (me)]) rfl (jl_rvn gL_0) ?_
      refine cx_gr (pc_q := 21) (c := 1) (q := 5) (v := F (me) (5 : Int)) rfl rfl (by decide) (by decide) rfl rfl o_me t_me (show Fx (me) (5 : Int) = F (me) (5 : Int) from hMx _ _ o_me (own_z o_me) (by rw [t_me]; rfl)) ?_
      have y69 : own m (F (me) (5 : Int)) ∧ tg (F (me) (5 : Int)) = 21 ∧ ((6001 : Int) ≠ 0 → ln (F (me) (5 : Int)) = 6001) := by have z := HC_n (c := 1) (q := 5) hCx o_me t_me (own_z o_me) (by decide) rfl; rw [show Fx (me) ((5 : Nat) : Int) = F (me) (5 : Int) from (show Fx (me) (5 : Int) = F (me) (5 : Int) from hMx _ _ o_me (own_z o_me) (by rw [t_me]; rfl))] at z; exact ⟨z.1, z.2.1, z.2.2.1⟩
      have ly69 : ln (F (me) (5 : Int)) = 6001 := y69.2.2 (by decide)
      refine jx_ld (pc_q := 22) (l_q := L) (st_q := [.int (i32 (k)), rv (F (me) (5 : Int))]) rfl (jl_iloadn gL_1) ?_
      refine jx_ar (pc_q := 23) (st_q := [.int (i32 (1)), .int (i32 (k)), rv (F (me) (5 : Int))]) rfl rfl rfl rfl ?_
      refine jx_add (pc_q := 24) rfl rfl ?_
      refine jx_ld (pc_q := 25) (l_q := L) (st_q := [rv (me), .int (i32 ((k + 1))), rv (F (me) (5 : Int))]) rfl (jl_rvn gL_0) ?_
      refine cx_gr (pc_q := 28) (c := 1) (q := 5) (v := F (me) (5 : Int)) rfl rfl (by decide) (by decide) rfl rfl o_me t_me (show Fx (me) (5 : Int) = F (me) (5 : Int) from hMx _ _ o_me (own_z o_me) (by rw [t_me]; rfl)) ?_
      refine jx_ld (pc_q := 29) (l_q := L) (st_q := [.int (i32 (k)), rv (F (me) (5 : Int)), .int (i32 ((k + 1))), rv (F (me) (5 : Int))]) rfl (jl_iloadn gL_1) ?_
      have b70 := HC_l hCx y69.1 y69.2.1 (by decide)
      refine cx_ial (pc_q := 30) (z := k) rfl rfl y69.1 y69.2.1 (by omega) (by omega) (by omega) ?_
      have b71 : (0 : Int) ≤ Fx (F (me) (5 : Int)) (k) ∧ Fx (F (me) (5 : Int)) (k) ≤ 1000000 := by have z := HC_e (j := k) hCx y69.1 (by rw [y69.2.1]; decide) (by omega); rw [(show Fx (F (me) (5 : Int)) (-1) = 2 by have z := HC_n (c := 1) (q := 5) hCx o_me t_me (own_z o_me) (by decide) rfl; rw [show Fx (me) ((5 : Nat) : Int) = F (me) (5 : Int) from (show Fx (me) (5 : Int) = F (me) (5 : Int) from hMx _ _ o_me (own_z o_me) (by rw [t_me]; rfl))] at z; exact z.2.2.2 (by decide))] at z; exact z
      refine jx_ld (pc_q := 31) (l_q := L) (st_q := [rv (me), .int (i32 (Fx (F (me) (5 : Int)) (k))), .int (i32 ((k + 1))), rv (F (me) (5 : Int))]) rfl (jl_rvn gL_0) ?_
      refine cx_gr (pc_q := 34) (c := 1) (q := 4) (v := F (me) (4 : Int)) rfl rfl (by decide) (by decide) rfl rfl o_me t_me (show Fx (me) (4 : Int) = F (me) (4 : Int) from hMx _ _ o_me (own_z o_me) (by rw [t_me]; rfl)) ?_
      have y72 : own m (F (me) (4 : Int)) ∧ tg (F (me) (4 : Int)) = 20 ∧ ((6000 : Int) ≠ 0 → ln (F (me) (4 : Int)) = 6000) := by have z := HC_n (c := 1) (q := 4) hCx o_me t_me (own_z o_me) (by decide) rfl; rw [show Fx (me) ((4 : Nat) : Int) = F (me) (4 : Int) from (show Fx (me) (4 : Int) = F (me) (4 : Int) from hMx _ _ o_me (own_z o_me) (by rw [t_me]; rfl))] at z; exact ⟨z.1, z.2.1, z.2.2.1⟩
      have ly72 : ln (F (me) (4 : Int)) = 6000 := y72.2.2 (by decide)
      refine jx_ld (pc_q := 35) (l_q := L) (st_q := [.int (i32 (k)), rv (F (me) (4 : Int)), .int (i32 (Fx (F (me) (5 : Int)) (k))), .int (i32 ((k + 1))), rv (F (me) (5 : Int))]) rfl (jl_iloadn gL_1) ?_
      have b73 := HC_l hCx y72.1 y72.2.1 (by decide)
      refine cx_bal (pc_q := 36) (z := k) rfl rfl y72.1 (Or.inl y72.2.1) (by omega) (by omega) (by omega) ?_
      have b74 : (0 : Int) ≤ Fx (F (me) (4 : Int)) (k) ∧ Fx (F (me) (4 : Int)) (k) ≤ 127 := by have z := HC_e (j := k) hCx y72.1 (by rw [y72.2.1]; decide) (by omega); rw [(show Fx (F (me) (4 : Int)) (-1) = 3 by have z := HC_n (c := 1) (q := 4) hCx o_me t_me (own_z o_me) (by decide) rfl; rw [show Fx (me) ((4 : Nat) : Int) = F (me) (4 : Int) from (show Fx (me) (4 : Int) = F (me) (4 : Int) from hMx _ _ o_me (own_z o_me) (by rw [t_me]; rfl))] at z; exact z.2.2.2 (by decide))] at z; exact z
      refine jx_add (pc_q := 37) rfl rfl ?_
      refine cx_ias (pc_q := 38) (z := (k + 1)) (y := (Fx (F (me) (5 : Int)) (k) + Fx (F (me) (4 : Int)) (k))) rfl rfl y69.1 y69.2.1 (by omega) (by omega) (by omega) ?_
      obtain ⟨F75, eF75⟩ : ∃ q, q = uF Fx (F (me) (5 : Int)) ((k + 1)) ((Fx (F (me) (5 : Int)) (k) + Fx (F (me) (4 : Int)) (k))) := ⟨_, rfl⟩
      rw [← eF75]
      have hC76 : HC 0 m tg ln F75 := by rw [eF75]; exact HC_pi hCx y69.1 y69.2.1 (by decide) (by omega) (by rw [(show Fx (F (me) (5 : Int)) (-1) = 2 by have z := HC_n (c := 1) (q := 5) hCx o_me t_me (own_z o_me) (by decide) rfl; rw [show Fx (me) ((5 : Nat) : Int) = F (me) (5 : Int) from (show Fx (me) (5 : Int) = F (me) (5 : Int) from hMx _ _ o_me (own_z o_me) (by rw [t_me]; rfl))] at z; exact z.2.2.2 (by decide))]; exact ⟨(by show (0 : Int) ≤ _; omega), (by show _ ≤ (1000000 : Int); omega)⟩)
      have hM77 : Fq 0 [(2, 11), (20, -5), (21, -5)] m tg F F75 := by rw [eF75]; exact Fq_p hMx y69.2.1 (fun _ => rfl) (inL_a rfl (by omega) rfl)
      refine jx_inc (pc_q := 41) (l_q := jSto1 L 1 (.int (i32 (k + (1))))) (x := k) rfl gL_1 (by decide) rfl rfl ?_
      obtain ⟨L78, eL78⟩ : ∃ q : jL, q = jSto1 L 1 (.int (i32 ((k + (1))))) := ⟨_, rfl⟩
      rw [← eL78]
      have g79 : jGet L78 0 = some (rv (me)) := eL78 ▸ jg_nr (by decide) gL_0
      have g80 : jGet L78 1 = some (.int (i32 ((k + (1))))) := eL78 ▸ jg_eq
      clear eL78
      refine jx_go (tg := 9) rfl rfl ?_
      exact ih _ (by omega) L78 F75 ((k + (1))) rfl g79 g80 hC76 hM77 (by omega) (by omega) (by have q : F75 (F (me) (5 : Int)) ((k + 1)) = (Fx (F (me) (5 : Int)) (k) + Fx (F (me) (4 : Int)) (k)) := (by rw [eF75]; exact uF_e); omega)
set_option maxRecDepth 20000 in
set_option maxHeartbeats 4000000 in
theorem k_LCoder_lengthen {X : jX} {dd : Nat} {R : Nat → jC} {m : Nat} {tg ln : Int → Int} {F : Int → Int → Int} {me : Int} (hd : 3 ≤ dd) (hC : HC 0 m tg ln F) (o_me : own m me) (t_me : tg me = 2) : wk X dd 53 [rv me] (cV R m tg ln F) (fun o V_q => ∃ (F_q : Int → Int → Int) (r : Int), V_q = cV R m tg ln F_q ∧ o = .inl (some (.int (i32 r))) ∧ HC 0 m tg ln F_q ∧ Fq 0 [(2, 11), (20, -5), (21, -5)] m tg F F_q ∧ (0 ≤ r ∧ r ≤ 1) ∧ True) := by
  obtain ⟨d, rfl⟩ : ∃ d, dd = d + 1 := ⟨dd - 1, by omega⟩
  refine wk_of (e := jm53) rfl (by rw [jS_r, jS_0]; exact Nat.le_of_ble_eq_true rfl) ?_
  rw [la_r, la_0]
  show wj X d jm53 (0, [(0, rv (me))], [], cV R m tg ln F) _
  have hM0 : Fq 0 [(2, 11), (20, -5), (21, -5)] m tg F F := Fq_r
  obtain ⟨L0, eL0⟩ : ∃ q : jL, q = [(0, rv (me))] := ⟨_, rfl⟩
  rw [← eL0]
  have g81 : jGet L0 0 = some (rv (me)) := eL0 ▸ (rfl : jGet [(0, rv (me))] 0 = some (rv (me)))
  clear eL0
  refine jx_ld (pc_q := 1) (l_q := L0) (st_q := [rv (me)]) rfl (jl_rvn g81) ?_
  refine cx_gr (pc_q := 4) (c := 1) (q := 5) (v := F (me) (5 : Int)) rfl rfl (by decide) (by decide) rfl rfl o_me t_me rfl ?_
  have y82 : own m (F (me) (5 : Int)) ∧ tg (F (me) (5 : Int)) = 21 ∧ ((6001 : Int) ≠ 0 → ln (F (me) (5 : Int)) = 6001) := by have z := HC_n (c := 1) (q := 5) hC o_me t_me (own_z o_me) (by decide) rfl; rw [show F (me) ((5 : Nat) : Int) = F (me) (5 : Int) from rfl] at z; exact ⟨z.1, z.2.1, z.2.2.1⟩
  have ly82 : ln (F (me) (5 : Int)) = 6001 := y82.2.2 (by decide)
  refine jx_ar (pc_q := 5) (st_q := [.int (i32 (0)), rv (F (me) (5 : Int))]) rfl rfl rfl rfl ?_
  refine jx_ar (pc_q := 6) (st_q := [.int (i32 (0)), .int (i32 (0)), rv (F (me) (5 : Int))]) rfl rfl rfl rfl ?_
  have b83 := HC_l hC y82.1 y82.2.1 (by decide)
  refine cx_ias (pc_q := 7) (z := 0) (y := 0) rfl rfl y82.1 y82.2.1 (by omega) (by omega) (by omega) ?_
  obtain ⟨F84, eF84⟩ : ∃ q, q = uF F (F (me) (5 : Int)) (0 : Int) (0) := ⟨_, rfl⟩
  rw [← eF84]
  have hC85 : HC 0 m tg ln F84 := by rw [eF84]; exact HC_pi hC y82.1 y82.2.1 (by decide) (by omega) (by rw [(show F (F (me) (5 : Int)) (-1) = 2 by have z := HC_n (c := 1) (q := 5) hC o_me t_me (own_z o_me) (by decide) rfl; rw [show F (me) ((5 : Nat) : Int) = F (me) (5 : Int) from rfl] at z; exact z.2.2.2 (by decide))]; exact ⟨(by show (0 : Int) ≤ _; omega), (by show _ ≤ (1000000 : Int); omega)⟩)
  have hM86 : Fq 0 [(2, 11), (20, -5), (21, -5)] m tg F F84 := by rw [eF84]; exact Fq_p hM0 y82.2.1 (fun _ => rfl) (inL_a rfl (by omega) rfl)
  refine jx_ar (pc_q := 8) (st_q := [.int (i32 (0))]) rfl rfl rfl rfl ?_
  refine jx_ld (pc_q := 9) (l_q := jSto1 L0 1 (.int (i32 (0)))) (st_q := []) rfl rfl ?_
  obtain ⟨L87, eL87⟩ : ∃ q : jL, q = jSto1 L0 1 (.int (i32 (0))) := ⟨_, rfl⟩
  rw [← eL87]
  have g88 : jGet L87 0 = some (rv (me)) := eL87 ▸ jg_nr (by decide) g81
  have g89 : jGet L87 1 = some (.int (i32 (0))) := eL87 ▸ jg_eq
  clear eL87
  exact k_LCoder_lengthen_at_9 (X := X) (d := d) (R := R) (m := m) (tg := tg) (ln := ln) (F := F) (me := me) (hd := hd) (hC := hC) (o_me := o_me) (t_me := t_me) _ L87 F84 (0) rfl g88 g89 hC85 hM86 (by omega) (by omega) (by have q : F84 (F (me) (5 : Int)) (0 : Int) = 0 := (by rw [eF84]; exact uF_e); omega)
set_option maxRecDepth 20000 in
set_option maxHeartbeats 4000000 in
theorem k_LCoder_wordOf {X : jX} {dd : Nat} {R : Nat → jC} {m : Nat} {tg ln : Int → Int} {F : Int → Int → Int} {me nm : Int} (hd : 1 ≤ dd) (hC : HC 0 m tg ln F) (o_me : own m me) (t_me : tg me = 2) (o_nm : own m nm) (t_nm : tg nm = 7) : wk X dd 61 [rv me, rv nm] (cV R m tg ln F) (fun o V_q => ∃ (r : Int), V_q = cV R m tg ln F ∧ o = .inl (some (.int (i32 r))) ∧ (-2147483648 ≤ r ∧ r ≤ 2147483647) ∧ True) := by
  obtain ⟨d, rfl⟩ : ∃ d, dd = d + 1 := ⟨dd - 1, by omega⟩
  refine wk_of (e := jm61) rfl (by rw [jS_r, jS_r, jS_0]; exact Nat.le_of_ble_eq_true rfl) ?_
  rw [la_r, la_r, la_0]
  show wj X d jm61 (0, [(0, rv (me)), (1, rv (nm))], [], cV R m tg ln F) _
  obtain ⟨L0, eL0⟩ : ∃ q : jL, q = [(0, rv (me)), (1, rv (nm))] := ⟨_, rfl⟩
  rw [← eL0]
  have g1 : jGet L0 0 = some (rv (me)) := eL0 ▸ (rfl : jGet [(0, rv (me)), (1, rv (nm))] 0 = some (rv (me)))
  have g2 : jGet L0 1 = some (rv (nm)) := eL0 ▸ (rfl : jGet [(0, rv (me)), (1, rv (nm))] 1 = some (rv (nm)))
  clear eL0
  refine jx_ld (pc_q := 1) (l_q := L0) (st_q := [rv (nm)]) rfl (jl_rvn g2) ?_
  refine cx_gi (pc_q := 4) (c := 6) (q := 6) (v := F (nm) (6 : Int)) rfl rfl (by decide) (by decide) (Or.inl rfl) rfl o_nm t_nm rfl ?_
  have b3 : (-2147483648 : Int) ≤ F (nm) (6 : Int) ∧ F (nm) (6 : Int) ≤ 2147483647 := by have z := HC_i (c := 6) (q := 6) hC o_nm t_nm (by decide) rfl; rw [show F (nm) ((6 : Nat) : Int) = F (nm) (6 : Int) from rfl] at z; exact z
  refine jx_ld (pc_q := 5) (l_q := L0) (st_q := [rv (nm), .int (i32 (F (nm) (6 : Int)))]) rfl (jl_rvn g2) ?_
  refine cx_gi (pc_q := 8) (c := 6) (q := 5) (v := F (nm) (5 : Int)) rfl rfl (by decide) (by decide) (Or.inl rfl) rfl o_nm t_nm rfl ?_
  have b4 : (-2147483648 : Int) ≤ F (nm) (5 : Int) ∧ F (nm) (5 : Int) ≤ 2147483647 := by have z := HC_i (c := 6) (q := 5) hC o_nm t_nm (by decide) rfl; rw [show F (nm) ((5 : Nat) : Int) = F (nm) (5 : Int) from rfl] at z; exact z
  refine jx_add (pc_q := 9) rfl rfl ?_
  obtain ⟨z5, ez5⟩ : ∃ q, q = (i32 ((F (nm) (6 : Int) + F (nm) (5 : Int)))).toInt := ⟨_, rfl⟩
  have bz5 : (-2147483648 : Int) ≤ z5 ∧ z5 ≤ 2147483647 := ez5 ▸ i32_rg _
  rw [show i32 ((F (nm) (6 : Int) + F (nm) (5 : Int))) = i32 z5 by rw [ez5, i32_of]]
  clear ez5
  refine jx_ld (pc_q := 10) (l_q := L0) (st_q := [rv (me), .int (i32 (z5))]) rfl (jl_rvn g1) ?_
  refine cx_gi (pc_q := 13) (c := 1) (q := 10) (v := F (me) (10 : Int)) rfl rfl (by decide) (by decide) (Or.inl rfl) rfl o_me t_me rfl ?_
  have b6 : (-2147483648 : Int) ≤ F (me) (10 : Int) ∧ F (me) (10 : Int) ≤ 2147483647 := by have z := HC_i (c := 1) (q := 10) hC o_me t_me (by decide) rfl; rw [show F (me) ((10 : Nat) : Int) = F (me) (10 : Int) from rfl] at z; exact z
  refine jx_sub (pc_q := 14) rfl rfl ?_
  obtain ⟨z7, ez7⟩ : ∃ q, q = (i32 ((z5 - F (me) (10 : Int)))).toInt := ⟨_, rfl⟩
  have bz7 : (-2147483648 : Int) ≤ z7 ∧ z7 ≤ 2147483647 := ez7 ▸ i32_rg _
  rw [show i32 ((z5 - F (me) (10 : Int))) = i32 z7 by rw [ez7, i32_of]]
  clear ez7
  refine jx_rt (v := some (.int (i32 (z7)))) rfl rfl rfl rfl rfl rfl ?_
  exact ⟨(z7), rfl, rfl, by omega, trivial⟩
set_option maxRecDepth 20000 in
set_option maxHeartbeats 4000000 in
theorem k_LCoder_operator_at_208 {X : jX} {d : Nat} {R : Nat → jC} {m : Nat} {tg ln : Int → Int} {F : Int → Int → Int} {me tk : Int} (hd : 3 ≤ d + 1) (hC : HC 0 m tg ln F) (o_me : own m me) (t_me : tg me = 2) (h_tk : (-2147483648 : Int) ≤ tk ∧ tk ≤ 2147483647) : ∀ (L : jL) (Fx : Int → Int → Int), jGet L 0 = some (rv (me)) → jGet L 1 = some (.int (i32 (tk))) → HC 0 m tg ln Fx → Fq 0 [(2, 7), (2, 11), (20, -5), (21, -5)] m tg F Fx → wj X d jm65 (208, L, [], cV R m tg ln Fx) (fun o V_q => ∃ (F_q : Int → Int → Int), V_q = cV R m tg ln F_q ∧ o = .inl none ∧ HC 0 m tg ln F_q ∧ Fq 0 [(2, 7), (2, 11), (20, -5), (21, -5)] m tg F F_q ∧ True) := by
  intro L Fx gL_0 gL_1 hCx hMx
  refine jx_ld (pc_q := 209) (l_q := L) (st_q := [.int (i32 (tk))]) rfl (jl_iloadn gL_1) ?_
  refine jx_ar (pc_q := 211) (st_q := [.int (i32 (41)), .int (i32 (tk))]) rfl rfl rfl rfl ?_
  refine jx_icmp_ne (pc_q := 214) (tg := 218) rfl rfl rfl (by omega) (by omega) (by decide) (by decide) (fun h1 => ?_) (fun h1 => ?_)
  · have _q := h1
    refine jx_ar (pc_q := 219) (st_q := [.int (i32 (0))]) rfl rfl rfl rfl ?_
    refine jx_ld (pc_q := 220) (l_q := jSto1 L 2 (.int (i32 (0)))) (st_q := []) rfl rfl ?_
    obtain ⟨L2, eL2⟩ : ∃ q : jL, q = jSto1 L 2 (.int (i32 (0))) := ⟨_, rfl⟩
    rw [← eL2]
    have g3 : jGet L2 0 = some (rv (me)) := eL2 ▸ jg_nr (by decide) gL_0
    have g4 : jGet L2 1 = some (.int (i32 (tk))) := eL2 ▸ jg_ne (by decide) gL_1 rfl
    have g5 : jGet L2 2 = some (.int (i32 (0))) := eL2 ▸ jg_eq
    clear eL2
    refine jx_ld (pc_q := 221) (l_q := L2) (st_q := [.int (i32 (0))]) rfl (jl_iloadn g5) ?_
    refine jx_if_ne (pc_q := 224) (tg := 242) rfl rfl rfl (by decide) (by decide) (fun h6 => ?_) (fun h6 => ?_)
    · have _q := h6
      exact absurd h6 (by omega)
    · have _q := h6
      refine jx_ld (pc_q := 225) (l_q := L2) (st_q := [.int (i32 (tk))]) rfl (jl_iloadn g4) ?_
      refine jx_ar (pc_q := 227) (st_q := [.int (i32 (58)), .int (i32 (tk))]) rfl rfl rfl rfl ?_
      refine jx_icmp_eq (pc_q := 230) (tg := 242) rfl rfl rfl (by omega) (by omega) (by decide) (by decide) (fun h7 => ?_) (fun h7 => ?_)
      · have _q := h7
        refine jx_ld (pc_q := 243) (l_q := L2) (st_q := [rv (me)]) rfl (jl_rvn g3) ?_
        refine jx_ar (pc_q := 245) (st_q := [.int (i32 (12)), rv (me)]) rfl rfl rfl rfl ?_
        refine jx_ar (pc_q := 246) (st_q := [.int (i32 (0)), .int (i32 (12)), rv (me)]) rfl rfl rfl rfl ?_
        refine cx_vi (c := 1) (a := me) (st := []) (as := [.int (i32 (12)), .int (i32 (0))]) rfl rfl rfl o_me t_me (by decide) rfl ⟨rfl, rfl, (Nat.le_of_ble_eq_true rfl)⟩ rfl (k_LCoder_emit (dd := d) (R := R) (m := m) (tg := tg) (ln := ln) (F := Fx) (me := me) (fu := 12) (op := 0) (hd := by omega) (hC := hCx) (o_me := o_me) (t_me := t_me) (h_fu := by omega) (h_op := by omega)) (fun o V_q hq => ?_)
        obtain ⟨F8, rfl, rfl, hC9, hM10, -⟩ := hq
        have hM11 : Fq 0 [(2, 7), (2, 11), (20, -5), (21, -5)] m tg F F8 := Fq_t (ln := ln) (ln1 := ln) hMx Ex_r hM10 (by decide) (Or.inl rfl)
        refine Or.inl ⟨rfl, ?_⟩
        refine jx_ld (pc_q := 250) (l_q := L2) (st_q := [.int (i32 (0))]) rfl (jl_iloadn g5) ?_
        refine jx_if_eq (pc_q := 253) (tg := 260) rfl rfl rfl (by decide) (by decide) (fun h12 => ?_) (fun h12 => ?_)
        · have _q := h12
          refine jx_rt (v := none) rfl rfl rfl rfl rfl rfl ?_
          exact ⟨F8, rfl, rfl, hC9, hM11, trivial⟩
        · have _q := h12
          exact absurd h12 (by omega)
      · have _q := h7
        refine jx_ld (pc_q := 231) (l_q := L2) (st_q := [.int (i32 (tk))]) rfl (jl_iloadn g4) ?_
        refine jx_ar (pc_q := 233) (st_q := [.int (i32 (42)), .int (i32 (tk))]) rfl rfl rfl rfl ?_
        refine jx_icmp_eq (pc_q := 236) (tg := 242) rfl rfl rfl (by omega) (by omega) (by decide) (by decide) (fun h13 => ?_) (fun h13 => ?_)
        · have _q := h13
          refine jx_ld (pc_q := 243) (l_q := L2) (st_q := [rv (me)]) rfl (jl_rvn g3) ?_
          refine jx_ar (pc_q := 245) (st_q := [.int (i32 (12)), rv (me)]) rfl rfl rfl rfl ?_
          refine jx_ar (pc_q := 246) (st_q := [.int (i32 (0)), .int (i32 (12)), rv (me)]) rfl rfl rfl rfl ?_
          refine cx_vi (c := 1) (a := me) (st := []) (as := [.int (i32 (12)), .int (i32 (0))]) rfl rfl rfl o_me t_me (by decide) rfl ⟨rfl, rfl, (Nat.le_of_ble_eq_true rfl)⟩ rfl (k_LCoder_emit (dd := d) (R := R) (m := m) (tg := tg) (ln := ln) (F := Fx) (me := me) (fu := 12) (op := 0) (hd := by omega) (hC := hCx) (o_me := o_me) (t_me := t_me) (h_fu := by omega) (h_op := by omega)) (fun o V_q hq => ?_)
          obtain ⟨F14, rfl, rfl, hC15, hM16, -⟩ := hq
          have hM17 : Fq 0 [(2, 7), (2, 11), (20, -5), (21, -5)] m tg F F14 := Fq_t (ln := ln) (ln1 := ln) hMx Ex_r hM16 (by decide) (Or.inl rfl)
          refine Or.inl ⟨rfl, ?_⟩
          refine jx_ld (pc_q := 250) (l_q := L2) (st_q := [.int (i32 (0))]) rfl (jl_iloadn g5) ?_
          refine jx_if_eq (pc_q := 253) (tg := 260) rfl rfl rfl (by decide) (by decide) (fun h18 => ?_) (fun h18 => ?_)
          · have _q := h18
            refine jx_rt (v := none) rfl rfl rfl rfl rfl rfl ?_
            exact ⟨F14, rfl, rfl, hC15, hM17, trivial⟩
          · have _q := h18
            exact absurd h18 (by omega)
        · have _q := h13
          refine jx_ld (pc_q := 237) (l_q := L2) (st_q := [.int (i32 (tk))]) rfl (jl_iloadn g4) ?_
          refine jx_ar (pc_q := 239) (st_q := [.int (i32 (43)), .int (i32 (tk))]) rfl rfl rfl rfl ?_
          refine jx_icmp_ne (pc_q := 242) (tg := 249) rfl rfl rfl (by omega) (by omega) (by decide) (by decide) (fun h19 => ?_) (fun h19 => ?_)
          · have _q := h19
            refine jx_ld (pc_q := 250) (l_q := L2) (st_q := [.int (i32 (0))]) rfl (jl_iloadn g5) ?_
            refine jx_if_eq (pc_q := 253) (tg := 260) rfl rfl rfl (by decide) (by decide) (fun h20 => ?_) (fun h20 => ?_)
            · have _q := h20
              refine jx_rt (v := none) rfl rfl rfl rfl rfl rfl ?_
              exact ⟨Fx, rfl, rfl, hCx, hMx, trivial⟩
            · have _q := h20
              exact absurd h20 (by omega)
          · have _q := h19
            refine jx_ld (pc_q := 243) (l_q := L2) (st_q := [rv (me)]) rfl (jl_rvn g3) ?_
            refine jx_ar (pc_q := 245) (st_q := [.int (i32 (12)), rv (me)]) rfl rfl rfl rfl ?_
            refine jx_ar (pc_q := 246) (st_q := [.int (i32 (0)), .int (i32 (12)), rv (me)]) rfl rfl rfl rfl ?_
            refine cx_vi (c := 1) (a := me) (st := []) (as := [.int (i32 (12)), .int (i32 (0))]) rfl rfl rfl o_me t_me (by decide) rfl ⟨rfl, rfl, (Nat.le_of_ble_eq_true rfl)⟩ rfl (k_LCoder_emit (dd := d) (R := R) (m := m) (tg := tg) (ln := ln) (F := Fx) (me := me) (fu := 12) (op := 0) (hd := by omega) (hC := hCx) (o_me := o_me) (t_me := t_me) (h_fu := by omega) (h_op := by omega)) (fun o V_q hq => ?_)
            obtain ⟨F21, rfl, rfl, hC22, hM23, -⟩ := hq
            have hM24 : Fq 0 [(2, 7), (2, 11), (20, -5), (21, -5)] m tg F F21 := Fq_t (ln := ln) (ln1 := ln) hMx Ex_r hM23 (by decide) (Or.inl rfl)
            refine Or.inl ⟨rfl, ?_⟩
            refine jx_ld (pc_q := 250) (l_q := L2) (st_q := [.int (i32 (0))]) rfl (jl_iloadn g5) ?_
            refine jx_if_eq (pc_q := 253) (tg := 260) rfl rfl rfl (by decide) (by decide) (fun h25 => ?_) (fun h25 => ?_)
            · have _q := h25
              refine jx_rt (v := none) rfl rfl rfl rfl rfl rfl ?_
              exact ⟨F21, rfl, rfl, hC22, hM24, trivial⟩
            · have _q := h25
              exact absurd h25 (by omega)
  · have _q := h1
    refine jx_ar (pc_q := 215) (st_q := [.int (i32 (1))]) rfl rfl rfl rfl ?_
    refine jx_go (tg := 219) rfl rfl ?_
    refine jx_ld (pc_q := 220) (l_q := jSto1 L 2 (.int (i32 (1)))) (st_q := []) rfl rfl ?_
    obtain ⟨L26, eL26⟩ : ∃ q : jL, q = jSto1 L 2 (.int (i32 (1))) := ⟨_, rfl⟩
    rw [← eL26]
    have g27 : jGet L26 0 = some (rv (me)) := eL26 ▸ jg_nr (by decide) gL_0
    have g28 : jGet L26 1 = some (.int (i32 (tk))) := eL26 ▸ jg_ne (by decide) gL_1 rfl
    have g29 : jGet L26 2 = some (.int (i32 (1))) := eL26 ▸ jg_eq
    clear eL26
    refine jx_ld (pc_q := 221) (l_q := L26) (st_q := [.int (i32 (1))]) rfl (jl_iloadn g29) ?_
    refine jx_if_ne (pc_q := 224) (tg := 242) rfl rfl rfl (by decide) (by decide) (fun h30 => ?_) (fun h30 => ?_)
    · have _q := h30
      refine jx_ld (pc_q := 243) (l_q := L26) (st_q := [rv (me)]) rfl (jl_rvn g27) ?_
      refine jx_ar (pc_q := 245) (st_q := [.int (i32 (12)), rv (me)]) rfl rfl rfl rfl ?_
      refine jx_ar (pc_q := 246) (st_q := [.int (i32 (0)), .int (i32 (12)), rv (me)]) rfl rfl rfl rfl ?_
      refine cx_vi (c := 1) (a := me) (st := []) (as := [.int (i32 (12)), .int (i32 (0))]) rfl rfl rfl o_me t_me (by decide) rfl ⟨rfl, rfl, (Nat.le_of_ble_eq_true rfl)⟩ rfl (k_LCoder_emit (dd := d) (R := R) (m := m) (tg := tg) (ln := ln) (F := Fx) (me := me) (fu := 12) (op := 0) (hd := by omega) (hC := hCx) (o_me := o_me) (t_me := t_me) (h_fu := by omega) (h_op := by omega)) (fun o V_q hq => ?_)
      obtain ⟨F31, rfl, rfl, hC32, hM33, -⟩ := hq
      have hM34 : Fq 0 [(2, 7), (2, 11), (20, -5), (21, -5)] m tg F F31 := Fq_t (ln := ln) (ln1 := ln) hMx Ex_r hM33 (by decide) (Or.inl rfl)
      refine Or.inl ⟨rfl, ?_⟩
      refine jx_ld (pc_q := 250) (l_q := L26) (st_q := [.int (i32 (1))]) rfl (jl_iloadn g29) ?_
      refine jx_if_eq (pc_q := 253) (tg := 260) rfl rfl rfl (by decide) (by decide) (fun h35 => ?_) (fun h35 => ?_)
      · have _q := h35
        exact absurd h35 (by omega)
      · have _q := h35
        refine jx_ld (pc_q := 254) (l_q := L26) (st_q := [rv (me)]) rfl (jl_rvn g27) ?_
        refine jx_ar (pc_q := 256) (st_q := [.int (i32 (12)), rv (me)]) rfl rfl rfl rfl ?_
        refine jx_ar (pc_q := 257) (st_q := [.int (i32 (0)), .int (i32 (12)), rv (me)]) rfl rfl rfl rfl ?_
        refine cx_vi (c := 1) (a := me) (st := []) (as := [.int (i32 (12)), .int (i32 (0))]) rfl rfl rfl o_me t_me (by decide) rfl ⟨rfl, rfl, (Nat.le_of_ble_eq_true rfl)⟩ rfl (k_LCoder_emit (dd := d) (R := R) (m := m) (tg := tg) (ln := ln) (F := F31) (me := me) (fu := 12) (op := 0) (hd := by omega) (hC := hC32) (o_me := o_me) (t_me := t_me) (h_fu := by omega) (h_op := by omega)) (fun o V_q hq => ?_)
        obtain ⟨F36, rfl, rfl, hC37, hM38, -⟩ := hq
        have hM39 : Fq 0 [(2, 7), (2, 11), (20, -5), (21, -5)] m tg F F36 := Fq_t (ln := ln) (ln1 := ln) hM34 Ex_r hM38 (by decide) (Or.inl rfl)
        refine Or.inl ⟨rfl, ?_⟩
        refine jx_rt (v := none) rfl rfl rfl rfl rfl rfl ?_
        exact ⟨F36, rfl, rfl, hC37, hM39, trivial⟩
    · have _q := h30
      exact absurd h30 (by omega)
set_option maxRecDepth 20000 in
set_option maxHeartbeats 4000000 in
theorem k_LCoder_operator {X : jX} {dd : Nat} {R : Nat → jC} {m : Nat} {tg ln : Int → Int} {F : Int → Int → Int} {me tk : Int} (hd : 3 ≤ dd) (hC : HC 0 m tg ln F) (o_me : own m me) (t_me : tg me = 2) (h_tk : (-2147483648 : Int) ≤ tk ∧ tk ≤ 2147483647) : wk X dd 65 [rv me, .int (i32 tk)] (cV R m tg ln F) (fun o V_q => ∃ (F_q : Int → Int → Int), V_q = cV R m tg ln F_q ∧ o = .inl none ∧ HC 0 m tg ln F_q ∧ Fq 0 [(2, 7), (2, 11), (20, -5), (21, -5)] m tg F F_q ∧ True) := by
  obtain ⟨d, rfl⟩ : ∃ d, dd = d + 1 := ⟨dd - 1, by omega⟩
  refine wk_of (e := jm65) rfl (by rw [jS_r, jS_i, jS_0]; exact Nat.le_of_ble_eq_true rfl) ?_
  rw [la_r, la_i, la_0]
  show wj X d jm65 (0, [(0, rv (me)), (1, .int (i32 (tk)))], [], cV R m tg ln F) _
  have hM0 : Fq 0 [(2, 7), (2, 11), (20, -5), (21, -5)] m tg F F := Fq_r
  obtain ⟨L0, eL0⟩ : ∃ q : jL, q = [(0, rv (me)), (1, .int (i32 (tk)))] := ⟨_, rfl⟩
  rw [← eL0]
  have g40 : jGet L0 0 = some (rv (me)) := eL0 ▸ (rfl : jGet [(0, rv (me)), (1, .int (i32 (tk)))] 0 = some (rv (me)))
  have g41 : jGet L0 1 = some (.int (i32 (tk))) := eL0 ▸ (rfl : jGet [(0, rv (me)), (1, .int (i32 (tk)))] 1 = some (.int (i32 (tk))))
  clear eL0
  refine jx_ld (pc_q := 1) (l_q := L0) (st_q := [.int (i32 (tk))]) rfl (jl_iloadn g41) ?_
  by_cases h42 : tk = 42
  · refine jx_swe (tg := 194) h42 rfl rfl rfl rfl ?_
    refine jx_ld (pc_q := 195) (l_q := L0) (st_q := [rv (me)]) rfl (jl_rvn g40) ?_
    refine jx_ar (pc_q := 197) (st_q := [.int (i32 (6)), rv (me)]) rfl rfl rfl rfl ?_
    refine cx_vi (c := 1) (a := me) (st := []) (as := [.int (i32 (6))]) rfl rfl rfl o_me t_me (by decide) rfl ⟨rfl, rfl, (Nat.le_of_ble_eq_true rfl)⟩ rfl (k_LCoder_operation (dd := d) (R := R) (m := m) (tg := tg) (ln := ln) (F := F) (me := me) (op := 6) (hd := by omega) (hC := hC) (o_me := o_me) (t_me := t_me) (h_op := by omega)) (fun o V_q hq => ?_)
    obtain ⟨F43, rfl, rfl, hC44, hM45, -⟩ := hq
    have hM46 : Fq 0 [(2, 7), (2, 11), (20, -5), (21, -5)] m tg F F43 := Fq_t (ln := ln) (ln1 := ln) hM0 Ex_r hM45 (by decide) (Or.inl rfl)
    refine Or.inl ⟨rfl, ?_⟩
    refine jx_go (tg := 208) rfl rfl ?_
    exact k_LCoder_operator_at_208 (X := X) (d := d) (R := R) (m := m) (tg := tg) (ln := ln) (F := F) (me := me) (tk := tk) (hd := hd) (hC := hC) (o_me := o_me) (t_me := t_me) (h_tk := h_tk) L0 F43 g40 g41 hC44 hM46
  by_cases h47 : tk = 43
  · refine jx_swe (tg := 180) h47 rfl rfl rfl rfl ?_
    refine jx_ld (pc_q := 181) (l_q := L0) (st_q := [rv (me)]) rfl (jl_rvn g40) ?_
    refine jx_ar (pc_q := 182) (st_q := [.int (i32 (0)), rv (me)]) rfl rfl rfl rfl ?_
    refine cx_vi (c := 1) (a := me) (st := []) (as := [.int (i32 (0))]) rfl rfl rfl o_me t_me (by decide) rfl ⟨rfl, rfl, (Nat.le_of_ble_eq_true rfl)⟩ rfl (k_LCoder_operation (dd := d) (R := R) (m := m) (tg := tg) (ln := ln) (F := F) (me := me) (op := 0) (hd := by omega) (hC := hC) (o_me := o_me) (t_me := t_me) (h_op := by omega)) (fun o V_q hq => ?_)
    obtain ⟨F48, rfl, rfl, hC49, hM50, -⟩ := hq
    have hM51 : Fq 0 [(2, 7), (2, 11), (20, -5), (21, -5)] m tg F F48 := Fq_t (ln := ln) (ln1 := ln) hM0 Ex_r hM50 (by decide) (Or.inl rfl)
    refine Or.inl ⟨rfl, ?_⟩
    refine jx_ld (pc_q := 186) (l_q := L0) (st_q := [rv (me)]) rfl (jl_rvn g40) ?_
    refine jx_ar (pc_q := 188) (st_q := [.int (i32 (6)), rv (me)]) rfl rfl rfl rfl ?_
    refine cx_vi (c := 1) (a := me) (st := []) (as := [.int (i32 (6))]) rfl rfl rfl o_me t_me (by decide) rfl ⟨rfl, rfl, (Nat.le_of_ble_eq_true rfl)⟩ rfl (k_LCoder_operation (dd := d) (R := R) (m := m) (tg := tg) (ln := ln) (F := F48) (me := me) (op := 6) (hd := by omega) (hC := hC49) (o_me := o_me) (t_me := t_me) (h_op := by omega)) (fun o V_q hq => ?_)
    obtain ⟨F52, rfl, rfl, hC53, hM54, -⟩ := hq
    have hM55 : Fq 0 [(2, 7), (2, 11), (20, -5), (21, -5)] m tg F F52 := Fq_t (ln := ln) (ln1 := ln) hM51 Ex_r hM54 (by decide) (Or.inl rfl)
    refine Or.inl ⟨rfl, ?_⟩
    refine jx_go (tg := 208) rfl rfl ?_
    exact k_LCoder_operator_at_208 (X := X) (d := d) (R := R) (m := m) (tg := tg) (ln := ln) (F := F) (me := me) (tk := tk) (hd := hd) (hC := hC) (o_me := o_me) (t_me := t_me) (h_tk := h_tk) L0 F52 g40 g41 hC53 hM55
  by_cases h56 : tk = 44
  · refine jx_swe (tg := 144) h56 rfl rfl rfl rfl ?_
    refine jx_ld (pc_q := 145) (l_q := L0) (st_q := [rv (me)]) rfl (jl_rvn g40) ?_
    refine jx_ar (pc_q := 147) (st_q := [.int (i32 (9)), rv (me)]) rfl rfl rfl rfl ?_
    refine cx_vi (c := 1) (a := me) (st := []) (as := [.int (i32 (9))]) rfl rfl rfl o_me t_me (by decide) rfl ⟨rfl, rfl, (Nat.le_of_ble_eq_true rfl)⟩ rfl (k_LCoder_operation (dd := d) (R := R) (m := m) (tg := tg) (ln := ln) (F := F) (me := me) (op := 9) (hd := by omega) (hC := hC) (o_me := o_me) (t_me := t_me) (h_op := by omega)) (fun o V_q hq => ?_)
    obtain ⟨F57, rfl, rfl, hC58, hM59, -⟩ := hq
    have hM60 : Fq 0 [(2, 7), (2, 11), (20, -5), (21, -5)] m tg F F57 := Fq_t (ln := ln) (ln1 := ln) hM0 Ex_r hM59 (by decide) (Or.inl rfl)
    refine Or.inl ⟨rfl, ?_⟩
    refine jx_go (tg := 208) rfl rfl ?_
    exact k_LCoder_operator_at_208 (X := X) (d := d) (R := R) (m := m) (tg := tg) (ln := ln) (F := F) (me := me) (tk := tk) (hd := hd) (hC := hC) (o_me := o_me) (t_me := t_me) (h_tk := h_tk) L0 F57 g40 g41 hC58 hM60
  by_cases h61 : tk = 45
  · refine jx_swe (tg := 153) h61 rfl rfl rfl rfl ?_
    refine jx_ld (pc_q := 154) (l_q := L0) (st_q := [rv (me)]) rfl (jl_rvn g40) ?_
    refine jx_ar (pc_q := 156) (st_q := [.int (i32 (10)), rv (me)]) rfl rfl rfl rfl ?_
    refine cx_vi (c := 1) (a := me) (st := []) (as := [.int (i32 (10))]) rfl rfl rfl o_me t_me (by decide) rfl ⟨rfl, rfl, (Nat.le_of_ble_eq_true rfl)⟩ rfl (k_LCoder_operation (dd := d) (R := R) (m := m) (tg := tg) (ln := ln) (F := F) (me := me) (op := 10) (hd := by omega) (hC := hC) (o_me := o_me) (t_me := t_me) (h_op := by omega)) (fun o V_q hq => ?_)
    obtain ⟨F62, rfl, rfl, hC63, hM64, -⟩ := hq
    have hM65 : Fq 0 [(2, 7), (2, 11), (20, -5), (21, -5)] m tg F F62 := Fq_t (ln := ln) (ln1 := ln) hM0 Ex_r hM64 (by decide) (Or.inl rfl)
    refine Or.inl ⟨rfl, ?_⟩
    refine jx_go (tg := 208) rfl rfl ?_
    exact k_LCoder_operator_at_208 (X := X) (d := d) (R := R) (m := m) (tg := tg) (ln := ln) (F := F) (me := me) (tk := tk) (hd := hd) (hC := hC) (o_me := o_me) (t_me := t_me) (h_tk := h_tk) L0 F62 g40 g41 hC63 hM65
  by_cases h66 : tk = 46
  · refine jx_swe (tg := 162) h66 rfl rfl rfl rfl ?_
    refine jx_ld (pc_q := 163) (l_q := L0) (st_q := [rv (me)]) rfl (jl_rvn g40) ?_
    refine jx_ar (pc_q := 165) (st_q := [.int (i32 (7)), rv (me)]) rfl rfl rfl rfl ?_
    refine cx_vi (c := 1) (a := me) (st := []) (as := [.int (i32 (7))]) rfl rfl rfl o_me t_me (by decide) rfl ⟨rfl, rfl, (Nat.le_of_ble_eq_true rfl)⟩ rfl (k_LCoder_operation (dd := d) (R := R) (m := m) (tg := tg) (ln := ln) (F := F) (me := me) (op := 7) (hd := by omega) (hC := hC) (o_me := o_me) (t_me := t_me) (h_op := by omega)) (fun o V_q hq => ?_)
    obtain ⟨F67, rfl, rfl, hC68, hM69, -⟩ := hq
    have hM70 : Fq 0 [(2, 7), (2, 11), (20, -5), (21, -5)] m tg F F67 := Fq_t (ln := ln) (ln1 := ln) hM0 Ex_r hM69 (by decide) (Or.inl rfl)
    refine Or.inl ⟨rfl, ?_⟩
    refine jx_go (tg := 208) rfl rfl ?_
    exact k_LCoder_operator_at_208 (X := X) (d := d) (R := R) (m := m) (tg := tg) (ln := ln) (F := F) (me := me) (tk := tk) (hd := hd) (hC := hC) (o_me := o_me) (t_me := t_me) (h_tk := h_tk) L0 F67 g40 g41 hC68 hM70
  by_cases h71 : tk = 47
  · refine jx_swe (tg := 171) h71 rfl rfl rfl rfl ?_
    refine jx_ld (pc_q := 172) (l_q := L0) (st_q := [rv (me)]) rfl (jl_rvn g40) ?_
    refine jx_ar (pc_q := 174) (st_q := [.int (i32 (8)), rv (me)]) rfl rfl rfl rfl ?_
    refine cx_vi (c := 1) (a := me) (st := []) (as := [.int (i32 (8))]) rfl rfl rfl o_me t_me (by decide) rfl ⟨rfl, rfl, (Nat.le_of_ble_eq_true rfl)⟩ rfl (k_LCoder_operation (dd := d) (R := R) (m := m) (tg := tg) (ln := ln) (F := F) (me := me) (op := 8) (hd := by omega) (hC := hC) (o_me := o_me) (t_me := t_me) (h_op := by omega)) (fun o V_q hq => ?_)
    obtain ⟨F72, rfl, rfl, hC73, hM74, -⟩ := hq
    have hM75 : Fq 0 [(2, 7), (2, 11), (20, -5), (21, -5)] m tg F F72 := Fq_t (ln := ln) (ln1 := ln) hM0 Ex_r hM74 (by decide) (Or.inl rfl)
    refine Or.inl ⟨rfl, ?_⟩
    refine jx_go (tg := 208) rfl rfl ?_
    exact k_LCoder_operator_at_208 (X := X) (d := d) (R := R) (m := m) (tg := tg) (ln := ln) (F := F) (me := me) (tk := tk) (hd := hd) (hC := hC) (o_me := o_me) (t_me := t_me) (h_tk := h_tk) L0 F72 g40 g41 hC73 hM75
  by_cases h76 : tk = 48
  · refine jx_swe (tg := 203) h76 rfl rfl rfl rfl ?_
    refine jx_ld (pc_q := 204) (l_q := L0) (st_q := [rv (me)]) rfl (jl_rvn g40) ?_
    refine jx_ar (pc_q := 205) (st_q := [.int (i32 (2)), rv (me)]) rfl rfl rfl rfl ?_
    refine cx_vi (c := 1) (a := me) (st := []) (as := [.int (i32 (2))]) rfl rfl rfl o_me t_me (by decide) rfl ⟨rfl, rfl, (Nat.le_of_ble_eq_true rfl)⟩ rfl (k_LCoder_operation (dd := d) (R := R) (m := m) (tg := tg) (ln := ln) (F := F) (me := me) (op := 2) (hd := by omega) (hC := hC) (o_me := o_me) (t_me := t_me) (h_op := by omega)) (fun o V_q hq => ?_)
    obtain ⟨F77, rfl, rfl, hC78, hM79, -⟩ := hq
    have hM80 : Fq 0 [(2, 7), (2, 11), (20, -5), (21, -5)] m tg F F77 := Fq_t (ln := ln) (ln1 := ln) hM0 Ex_r hM79 (by decide) (Or.inl rfl)
    refine Or.inl ⟨rfl, ?_⟩
    exact k_LCoder_operator_at_208 (X := X) (d := d) (R := R) (m := m) (tg := tg) (ln := ln) (F := F) (me := me) (tk := tk) (hd := hd) (hC := hC) (o_me := o_me) (t_me := t_me) (h_tk := h_tk) L0 F77 g40 g41 hC78 hM80
  by_cases h81 : tk = 49
  · refine jx_swe (tg := 203) h81 rfl rfl rfl rfl ?_
    refine jx_ld (pc_q := 204) (l_q := L0) (st_q := [rv (me)]) rfl (jl_rvn g40) ?_
    refine jx_ar (pc_q := 205) (st_q := [.int (i32 (2)), rv (me)]) rfl rfl rfl rfl ?_
    refine cx_vi (c := 1) (a := me) (st := []) (as := [.int (i32 (2))]) rfl rfl rfl o_me t_me (by decide) rfl ⟨rfl, rfl, (Nat.le_of_ble_eq_true rfl)⟩ rfl (k_LCoder_operation (dd := d) (R := R) (m := m) (tg := tg) (ln := ln) (F := F) (me := me) (op := 2) (hd := by omega) (hC := hC) (o_me := o_me) (t_me := t_me) (h_op := by omega)) (fun o V_q hq => ?_)
    obtain ⟨F82, rfl, rfl, hC83, hM84, -⟩ := hq
    have hM85 : Fq 0 [(2, 7), (2, 11), (20, -5), (21, -5)] m tg F F82 := Fq_t (ln := ln) (ln1 := ln) hM0 Ex_r hM84 (by decide) (Or.inl rfl)
    refine Or.inl ⟨rfl, ?_⟩
    exact k_LCoder_operator_at_208 (X := X) (d := d) (R := R) (m := m) (tg := tg) (ln := ln) (F := F) (me := me) (tk := tk) (hd := hd) (hC := hC) (o_me := o_me) (t_me := t_me) (h_tk := h_tk) L0 F82 g40 g41 hC83 hM85
  by_cases h86 : tk = 50
  · refine jx_swe (tg := 203) h86 rfl rfl rfl rfl ?_
    refine jx_ld (pc_q := 204) (l_q := L0) (st_q := [rv (me)]) rfl (jl_rvn g40) ?_
    refine jx_ar (pc_q := 205) (st_q := [.int (i32 (2)), rv (me)]) rfl rfl rfl rfl ?_
    refine cx_vi (c := 1) (a := me) (st := []) (as := [.int (i32 (2))]) rfl rfl rfl o_me t_me (by decide) rfl ⟨rfl, rfl, (Nat.le_of_ble_eq_true rfl)⟩ rfl (k_LCoder_operation (dd := d) (R := R) (m := m) (tg := tg) (ln := ln) (F := F) (me := me) (op := 2) (hd := by omega) (hC := hC) (o_me := o_me) (t_me := t_me) (h_op := by omega)) (fun o V_q hq => ?_)
    obtain ⟨F87, rfl, rfl, hC88, hM89, -⟩ := hq
    have hM90 : Fq 0 [(2, 7), (2, 11), (20, -5), (21, -5)] m tg F F87 := Fq_t (ln := ln) (ln1 := ln) hM0 Ex_r hM89 (by decide) (Or.inl rfl)
    refine Or.inl ⟨rfl, ?_⟩
    exact k_LCoder_operator_at_208 (X := X) (d := d) (R := R) (m := m) (tg := tg) (ln := ln) (F := F) (me := me) (tk := tk) (hd := hd) (hC := hC) (o_me := o_me) (t_me := t_me) (h_tk := h_tk) L0 F87 g40 g41 hC88 hM90
  by_cases h91 : tk = 51
  · refine jx_swe (tg := 203) h91 rfl rfl rfl rfl ?_
    refine jx_ld (pc_q := 204) (l_q := L0) (st_q := [rv (me)]) rfl (jl_rvn g40) ?_
    refine jx_ar (pc_q := 205) (st_q := [.int (i32 (2)), rv (me)]) rfl rfl rfl rfl ?_
    refine cx_vi (c := 1) (a := me) (st := []) (as := [.int (i32 (2))]) rfl rfl rfl o_me t_me (by decide) rfl ⟨rfl, rfl, (Nat.le_of_ble_eq_true rfl)⟩ rfl (k_LCoder_operation (dd := d) (R := R) (m := m) (tg := tg) (ln := ln) (F := F) (me := me) (op := 2) (hd := by omega) (hC := hC) (o_me := o_me) (t_me := t_me) (h_op := by omega)) (fun o V_q hq => ?_)
    obtain ⟨F92, rfl, rfl, hC93, hM94, -⟩ := hq
    have hM95 : Fq 0 [(2, 7), (2, 11), (20, -5), (21, -5)] m tg F F92 := Fq_t (ln := ln) (ln1 := ln) hM0 Ex_r hM94 (by decide) (Or.inl rfl)
    refine Or.inl ⟨rfl, ?_⟩
    exact k_LCoder_operator_at_208 (X := X) (d := d) (R := R) (m := m) (tg := tg) (ln := ln) (F := F) (me := me) (tk := tk) (hd := hd) (hC := hC) (o_me := o_me) (t_me := t_me) (h_tk := h_tk) L0 F92 g40 g41 hC93 hM95
  by_cases h96 : tk = 52
  · refine jx_swe (tg := 203) h96 rfl rfl rfl rfl ?_
    refine jx_ld (pc_q := 204) (l_q := L0) (st_q := [rv (me)]) rfl (jl_rvn g40) ?_
    refine jx_ar (pc_q := 205) (st_q := [.int (i32 (2)), rv (me)]) rfl rfl rfl rfl ?_
    refine cx_vi (c := 1) (a := me) (st := []) (as := [.int (i32 (2))]) rfl rfl rfl o_me t_me (by decide) rfl ⟨rfl, rfl, (Nat.le_of_ble_eq_true rfl)⟩ rfl (k_LCoder_operation (dd := d) (R := R) (m := m) (tg := tg) (ln := ln) (F := F) (me := me) (op := 2) (hd := by omega) (hC := hC) (o_me := o_me) (t_me := t_me) (h_op := by omega)) (fun o V_q hq => ?_)
    obtain ⟨F97, rfl, rfl, hC98, hM99, -⟩ := hq
    have hM100 : Fq 0 [(2, 7), (2, 11), (20, -5), (21, -5)] m tg F F97 := Fq_t (ln := ln) (ln1 := ln) hM0 Ex_r hM99 (by decide) (Or.inl rfl)
    refine Or.inl ⟨rfl, ?_⟩
    exact k_LCoder_operator_at_208 (X := X) (d := d) (R := R) (m := m) (tg := tg) (ln := ln) (F := F) (me := me) (tk := tk) (hd := hd) (hC := hC) (o_me := o_me) (t_me := t_me) (h_tk := h_tk) L0 F97 g40 g41 hC98 hM100
  by_cases h101 : tk = 53
  · refine jx_swe (tg := 203) h101 rfl rfl rfl rfl ?_
    refine jx_ld (pc_q := 204) (l_q := L0) (st_q := [rv (me)]) rfl (jl_rvn g40) ?_
    refine jx_ar (pc_q := 205) (st_q := [.int (i32 (2)), rv (me)]) rfl rfl rfl rfl ?_
    refine cx_vi (c := 1) (a := me) (st := []) (as := [.int (i32 (2))]) rfl rfl rfl o_me t_me (by decide) rfl ⟨rfl, rfl, (Nat.le_of_ble_eq_true rfl)⟩ rfl (k_LCoder_operation (dd := d) (R := R) (m := m) (tg := tg) (ln := ln) (F := F) (me := me) (op := 2) (hd := by omega) (hC := hC) (o_me := o_me) (t_me := t_me) (h_op := by omega)) (fun o V_q hq => ?_)
    obtain ⟨F102, rfl, rfl, hC103, hM104, -⟩ := hq
    have hM105 : Fq 0 [(2, 7), (2, 11), (20, -5), (21, -5)] m tg F F102 := Fq_t (ln := ln) (ln1 := ln) hM0 Ex_r hM104 (by decide) (Or.inl rfl)
    refine Or.inl ⟨rfl, ?_⟩
    exact k_LCoder_operator_at_208 (X := X) (d := d) (R := R) (m := m) (tg := tg) (ln := ln) (F := F) (me := me) (tk := tk) (hd := hd) (hC := hC) (o_me := o_me) (t_me := t_me) (h_tk := h_tk) L0 F102 g40 g41 hC103 hM105
  by_cases h106 : tk = 54
  · refine jx_swe (tg := 203) h106 rfl rfl rfl rfl ?_
    refine jx_ld (pc_q := 204) (l_q := L0) (st_q := [rv (me)]) rfl (jl_rvn g40) ?_
    refine jx_ar (pc_q := 205) (st_q := [.int (i32 (2)), rv (me)]) rfl rfl rfl rfl ?_
    refine cx_vi (c := 1) (a := me) (st := []) (as := [.int (i32 (2))]) rfl rfl rfl o_me t_me (by decide) rfl ⟨rfl, rfl, (Nat.le_of_ble_eq_true rfl)⟩ rfl (k_LCoder_operation (dd := d) (R := R) (m := m) (tg := tg) (ln := ln) (F := F) (me := me) (op := 2) (hd := by omega) (hC := hC) (o_me := o_me) (t_me := t_me) (h_op := by omega)) (fun o V_q hq => ?_)
    obtain ⟨F107, rfl, rfl, hC108, hM109, -⟩ := hq
    have hM110 : Fq 0 [(2, 7), (2, 11), (20, -5), (21, -5)] m tg F F107 := Fq_t (ln := ln) (ln1 := ln) hM0 Ex_r hM109 (by decide) (Or.inl rfl)
    refine Or.inl ⟨rfl, ?_⟩
    exact k_LCoder_operator_at_208 (X := X) (d := d) (R := R) (m := m) (tg := tg) (ln := ln) (F := F) (me := me) (tk := tk) (hd := hd) (hC := hC) (o_me := o_me) (t_me := t_me) (h_tk := h_tk) L0 F107 g40 g41 hC108 hM110
  by_cases h111 : tk = 55
  · refine jx_swe (tg := 203) h111 rfl rfl rfl rfl ?_
    refine jx_ld (pc_q := 204) (l_q := L0) (st_q := [rv (me)]) rfl (jl_rvn g40) ?_
    refine jx_ar (pc_q := 205) (st_q := [.int (i32 (2)), rv (me)]) rfl rfl rfl rfl ?_
    refine cx_vi (c := 1) (a := me) (st := []) (as := [.int (i32 (2))]) rfl rfl rfl o_me t_me (by decide) rfl ⟨rfl, rfl, (Nat.le_of_ble_eq_true rfl)⟩ rfl (k_LCoder_operation (dd := d) (R := R) (m := m) (tg := tg) (ln := ln) (F := F) (me := me) (op := 2) (hd := by omega) (hC := hC) (o_me := o_me) (t_me := t_me) (h_op := by omega)) (fun o V_q hq => ?_)
    obtain ⟨F112, rfl, rfl, hC113, hM114, -⟩ := hq
    have hM115 : Fq 0 [(2, 7), (2, 11), (20, -5), (21, -5)] m tg F F112 := Fq_t (ln := ln) (ln1 := ln) hM0 Ex_r hM114 (by decide) (Or.inl rfl)
    refine Or.inl ⟨rfl, ?_⟩
    exact k_LCoder_operator_at_208 (X := X) (d := d) (R := R) (m := m) (tg := tg) (ln := ln) (F := F) (me := me) (tk := tk) (hd := hd) (hC := hC) (o_me := o_me) (t_me := t_me) (h_tk := h_tk) L0 F112 g40 g41 hC113 hM115
  by_cases h116 : tk = 56
  · refine jx_swe (tg := 203) h116 rfl rfl rfl rfl ?_
    refine jx_ld (pc_q := 204) (l_q := L0) (st_q := [rv (me)]) rfl (jl_rvn g40) ?_
    refine jx_ar (pc_q := 205) (st_q := [.int (i32 (2)), rv (me)]) rfl rfl rfl rfl ?_
    refine cx_vi (c := 1) (a := me) (st := []) (as := [.int (i32 (2))]) rfl rfl rfl o_me t_me (by decide) rfl ⟨rfl, rfl, (Nat.le_of_ble_eq_true rfl)⟩ rfl (k_LCoder_operation (dd := d) (R := R) (m := m) (tg := tg) (ln := ln) (F := F) (me := me) (op := 2) (hd := by omega) (hC := hC) (o_me := o_me) (t_me := t_me) (h_op := by omega)) (fun o V_q hq => ?_)
    obtain ⟨F117, rfl, rfl, hC118, hM119, -⟩ := hq
    have hM120 : Fq 0 [(2, 7), (2, 11), (20, -5), (21, -5)] m tg F F117 := Fq_t (ln := ln) (ln1 := ln) hM0 Ex_r hM119 (by decide) (Or.inl rfl)
    refine Or.inl ⟨rfl, ?_⟩
    exact k_LCoder_operator_at_208 (X := X) (d := d) (R := R) (m := m) (tg := tg) (ln := ln) (F := F) (me := me) (tk := tk) (hd := hd) (hC := hC) (o_me := o_me) (t_me := t_me) (h_tk := h_tk) L0 F117 g40 g41 hC118 hM120
  by_cases h121 : tk = 57
  · refine jx_swe (tg := 203) h121 rfl rfl rfl rfl ?_
    refine jx_ld (pc_q := 204) (l_q := L0) (st_q := [rv (me)]) rfl (jl_rvn g40) ?_
    refine jx_ar (pc_q := 205) (st_q := [.int (i32 (2)), rv (me)]) rfl rfl rfl rfl ?_
    refine cx_vi (c := 1) (a := me) (st := []) (as := [.int (i32 (2))]) rfl rfl rfl o_me t_me (by decide) rfl ⟨rfl, rfl, (Nat.le_of_ble_eq_true rfl)⟩ rfl (k_LCoder_operation (dd := d) (R := R) (m := m) (tg := tg) (ln := ln) (F := F) (me := me) (op := 2) (hd := by omega) (hC := hC) (o_me := o_me) (t_me := t_me) (h_op := by omega)) (fun o V_q hq => ?_)
    obtain ⟨F122, rfl, rfl, hC123, hM124, -⟩ := hq
    have hM125 : Fq 0 [(2, 7), (2, 11), (20, -5), (21, -5)] m tg F F122 := Fq_t (ln := ln) (ln1 := ln) hM0 Ex_r hM124 (by decide) (Or.inl rfl)
    refine Or.inl ⟨rfl, ?_⟩
    exact k_LCoder_operator_at_208 (X := X) (d := d) (R := R) (m := m) (tg := tg) (ln := ln) (F := F) (me := me) (tk := tk) (hd := hd) (hC := hC) (o_me := o_me) (t_me := t_me) (h_tk := h_tk) L0 F122 g40 g41 hC123 hM125
  by_cases h126 : tk = 58
  · refine jx_swe (tg := 203) h126 rfl rfl rfl rfl ?_
    refine jx_ld (pc_q := 204) (l_q := L0) (st_q := [rv (me)]) rfl (jl_rvn g40) ?_
    refine jx_ar (pc_q := 205) (st_q := [.int (i32 (2)), rv (me)]) rfl rfl rfl rfl ?_
    refine cx_vi (c := 1) (a := me) (st := []) (as := [.int (i32 (2))]) rfl rfl rfl o_me t_me (by decide) rfl ⟨rfl, rfl, (Nat.le_of_ble_eq_true rfl)⟩ rfl (k_LCoder_operation (dd := d) (R := R) (m := m) (tg := tg) (ln := ln) (F := F) (me := me) (op := 2) (hd := by omega) (hC := hC) (o_me := o_me) (t_me := t_me) (h_op := by omega)) (fun o V_q hq => ?_)
    obtain ⟨F127, rfl, rfl, hC128, hM129, -⟩ := hq
    have hM130 : Fq 0 [(2, 7), (2, 11), (20, -5), (21, -5)] m tg F F127 := Fq_t (ln := ln) (ln1 := ln) hM0 Ex_r hM129 (by decide) (Or.inl rfl)
    refine Or.inl ⟨rfl, ?_⟩
    exact k_LCoder_operator_at_208 (X := X) (d := d) (R := R) (m := m) (tg := tg) (ln := ln) (F := F) (me := me) (tk := tk) (hd := hd) (hC := hC) (o_me := o_me) (t_me := t_me) (h_tk := h_tk) L0 F127 g40 g41 hC128 hM130
  by_cases h131 : tk = 59
  · refine jx_swe (tg := 180) h131 rfl rfl rfl rfl ?_
    refine jx_ld (pc_q := 181) (l_q := L0) (st_q := [rv (me)]) rfl (jl_rvn g40) ?_
    refine jx_ar (pc_q := 182) (st_q := [.int (i32 (0)), rv (me)]) rfl rfl rfl rfl ?_
    refine cx_vi (c := 1) (a := me) (st := []) (as := [.int (i32 (0))]) rfl rfl rfl o_me t_me (by decide) rfl ⟨rfl, rfl, (Nat.le_of_ble_eq_true rfl)⟩ rfl (k_LCoder_operation (dd := d) (R := R) (m := m) (tg := tg) (ln := ln) (F := F) (me := me) (op := 0) (hd := by omega) (hC := hC) (o_me := o_me) (t_me := t_me) (h_op := by omega)) (fun o V_q hq => ?_)
    obtain ⟨F132, rfl, rfl, hC133, hM134, -⟩ := hq
    have hM135 : Fq 0 [(2, 7), (2, 11), (20, -5), (21, -5)] m tg F F132 := Fq_t (ln := ln) (ln1 := ln) hM0 Ex_r hM134 (by decide) (Or.inl rfl)
    refine Or.inl ⟨rfl, ?_⟩
    refine jx_ld (pc_q := 186) (l_q := L0) (st_q := [rv (me)]) rfl (jl_rvn g40) ?_
    refine jx_ar (pc_q := 188) (st_q := [.int (i32 (6)), rv (me)]) rfl rfl rfl rfl ?_
    refine cx_vi (c := 1) (a := me) (st := []) (as := [.int (i32 (6))]) rfl rfl rfl o_me t_me (by decide) rfl ⟨rfl, rfl, (Nat.le_of_ble_eq_true rfl)⟩ rfl (k_LCoder_operation (dd := d) (R := R) (m := m) (tg := tg) (ln := ln) (F := F132) (me := me) (op := 6) (hd := by omega) (hC := hC133) (o_me := o_me) (t_me := t_me) (h_op := by omega)) (fun o V_q hq => ?_)
    obtain ⟨F136, rfl, rfl, hC137, hM138, -⟩ := hq
    have hM139 : Fq 0 [(2, 7), (2, 11), (20, -5), (21, -5)] m tg F F136 := Fq_t (ln := ln) (ln1 := ln) hM135 Ex_r hM138 (by decide) (Or.inl rfl)
    refine Or.inl ⟨rfl, ?_⟩
    refine jx_go (tg := 208) rfl rfl ?_
    exact k_LCoder_operator_at_208 (X := X) (d := d) (R := R) (m := m) (tg := tg) (ln := ln) (F := F) (me := me) (tk := tk) (hd := hd) (hC := hC) (o_me := o_me) (t_me := t_me) (h_tk := h_tk) L0 F136 g40 g41 hC137 hM139
  by_cases h140 : tk = 60
  · refine jx_swe (tg := 194) h140 rfl rfl rfl rfl ?_
    refine jx_ld (pc_q := 195) (l_q := L0) (st_q := [rv (me)]) rfl (jl_rvn g40) ?_
    refine jx_ar (pc_q := 197) (st_q := [.int (i32 (6)), rv (me)]) rfl rfl rfl rfl ?_
    refine cx_vi (c := 1) (a := me) (st := []) (as := [.int (i32 (6))]) rfl rfl rfl o_me t_me (by decide) rfl ⟨rfl, rfl, (Nat.le_of_ble_eq_true rfl)⟩ rfl (k_LCoder_operation (dd := d) (R := R) (m := m) (tg := tg) (ln := ln) (F := F) (me := me) (op := 6) (hd := by omega) (hC := hC) (o_me := o_me) (t_me := t_me) (h_op := by omega)) (fun o V_q hq => ?_)
    obtain ⟨F141, rfl, rfl, hC142, hM143, -⟩ := hq
    have hM144 : Fq 0 [(2, 7), (2, 11), (20, -5), (21, -5)] m tg F F141 := Fq_t (ln := ln) (ln1 := ln) hM0 Ex_r hM143 (by decide) (Or.inl rfl)
    refine Or.inl ⟨rfl, ?_⟩
    refine jx_go (tg := 208) rfl rfl ?_
    exact k_LCoder_operator_at_208 (X := X) (d := d) (R := R) (m := m) (tg := tg) (ln := ln) (F := F) (me := me) (tk := tk) (hd := hd) (hC := hC) (o_me := o_me) (t_me := t_me) (h_tk := h_tk) L0 F141 g40 g41 hC142 hM144
  by_cases h145 : tk = 61
  · refine jx_swe (tg := 112) h145 rfl rfl rfl rfl ?_
    refine jx_ld (pc_q := 113) (l_q := L0) (st_q := [rv (me)]) rfl (jl_rvn g40) ?_
    refine jx_ar (pc_q := 114) (st_q := [.int (i32 (1)), rv (me)]) rfl rfl rfl rfl ?_
    refine cx_vi (c := 1) (a := me) (st := []) (as := [.int (i32 (1))]) rfl rfl rfl o_me t_me (by decide) rfl ⟨rfl, rfl, (Nat.le_of_ble_eq_true rfl)⟩ rfl (k_LCoder_operation (dd := d) (R := R) (m := m) (tg := tg) (ln := ln) (F := F) (me := me) (op := 1) (hd := by omega) (hC := hC) (o_me := o_me) (t_me := t_me) (h_op := by omega)) (fun o V_q hq => ?_)
    obtain ⟨F146, rfl, rfl, hC147, hM148, -⟩ := hq
    have hM149 : Fq 0 [(2, 7), (2, 11), (20, -5), (21, -5)] m tg F F146 := Fq_t (ln := ln) (ln1 := ln) hM0 Ex_r hM148 (by decide) (Or.inl rfl)
    refine Or.inl ⟨rfl, ?_⟩
    refine jx_go (tg := 208) rfl rfl ?_
    exact k_LCoder_operator_at_208 (X := X) (d := d) (R := R) (m := m) (tg := tg) (ln := ln) (F := F) (me := me) (tk := tk) (hd := hd) (hC := hC) (o_me := o_me) (t_me := t_me) (h_tk := h_tk) L0 F146 g40 g41 hC147 hM149
  by_cases h150 : tk = 62
  · refine jx_swe (tg := 203) h150 rfl rfl rfl rfl ?_
    refine jx_ld (pc_q := 204) (l_q := L0) (st_q := [rv (me)]) rfl (jl_rvn g40) ?_
    refine jx_ar (pc_q := 205) (st_q := [.int (i32 (2)), rv (me)]) rfl rfl rfl rfl ?_
    refine cx_vi (c := 1) (a := me) (st := []) (as := [.int (i32 (2))]) rfl rfl rfl o_me t_me (by decide) rfl ⟨rfl, rfl, (Nat.le_of_ble_eq_true rfl)⟩ rfl (k_LCoder_operation (dd := d) (R := R) (m := m) (tg := tg) (ln := ln) (F := F) (me := me) (op := 2) (hd := by omega) (hC := hC) (o_me := o_me) (t_me := t_me) (h_op := by omega)) (fun o V_q hq => ?_)
    obtain ⟨F151, rfl, rfl, hC152, hM153, -⟩ := hq
    have hM154 : Fq 0 [(2, 7), (2, 11), (20, -5), (21, -5)] m tg F F151 := Fq_t (ln := ln) (ln1 := ln) hM0 Ex_r hM153 (by decide) (Or.inl rfl)
    refine Or.inl ⟨rfl, ?_⟩
    exact k_LCoder_operator_at_208 (X := X) (d := d) (R := R) (m := m) (tg := tg) (ln := ln) (F := F) (me := me) (tk := tk) (hd := hd) (hC := hC) (o_me := o_me) (t_me := t_me) (h_tk := h_tk) L0 F151 g40 g41 hC152 hM154
  by_cases h155 : tk = 63
  · refine jx_swe (tg := 120) h155 rfl rfl rfl rfl ?_
    refine jx_ld (pc_q := 121) (l_q := L0) (st_q := [rv (me)]) rfl (jl_rvn g40) ?_
    refine jx_ar (pc_q := 122) (st_q := [.int (i32 (3)), rv (me)]) rfl rfl rfl rfl ?_
    refine cx_vi (c := 1) (a := me) (st := []) (as := [.int (i32 (3))]) rfl rfl rfl o_me t_me (by decide) rfl ⟨rfl, rfl, (Nat.le_of_ble_eq_true rfl)⟩ rfl (k_LCoder_operation (dd := d) (R := R) (m := m) (tg := tg) (ln := ln) (F := F) (me := me) (op := 3) (hd := by omega) (hC := hC) (o_me := o_me) (t_me := t_me) (h_op := by omega)) (fun o V_q hq => ?_)
    obtain ⟨F156, rfl, rfl, hC157, hM158, -⟩ := hq
    have hM159 : Fq 0 [(2, 7), (2, 11), (20, -5), (21, -5)] m tg F F156 := Fq_t (ln := ln) (ln1 := ln) hM0 Ex_r hM158 (by decide) (Or.inl rfl)
    refine Or.inl ⟨rfl, ?_⟩
    refine jx_go (tg := 208) rfl rfl ?_
    exact k_LCoder_operator_at_208 (X := X) (d := d) (R := R) (m := m) (tg := tg) (ln := ln) (F := F) (me := me) (tk := tk) (hd := hd) (hC := hC) (o_me := o_me) (t_me := t_me) (h_tk := h_tk) L0 F156 g40 g41 hC157 hM159
  by_cases h160 : tk = 64
  · refine jx_swe (tg := 128) h160 rfl rfl rfl rfl ?_
    refine jx_ld (pc_q := 129) (l_q := L0) (st_q := [rv (me)]) rfl (jl_rvn g40) ?_
    refine jx_ar (pc_q := 130) (st_q := [.int (i32 (4)), rv (me)]) rfl rfl rfl rfl ?_
    refine cx_vi (c := 1) (a := me) (st := []) (as := [.int (i32 (4))]) rfl rfl rfl o_me t_me (by decide) rfl ⟨rfl, rfl, (Nat.le_of_ble_eq_true rfl)⟩ rfl (k_LCoder_operation (dd := d) (R := R) (m := m) (tg := tg) (ln := ln) (F := F) (me := me) (op := 4) (hd := by omega) (hC := hC) (o_me := o_me) (t_me := t_me) (h_op := by omega)) (fun o V_q hq => ?_)
    obtain ⟨F161, rfl, rfl, hC162, hM163, -⟩ := hq
    have hM164 : Fq 0 [(2, 7), (2, 11), (20, -5), (21, -5)] m tg F F161 := Fq_t (ln := ln) (ln1 := ln) hM0 Ex_r hM163 (by decide) (Or.inl rfl)
    refine Or.inl ⟨rfl, ?_⟩
    refine jx_go (tg := 208) rfl rfl ?_
    exact k_LCoder_operator_at_208 (X := X) (d := d) (R := R) (m := m) (tg := tg) (ln := ln) (F := F) (me := me) (tk := tk) (hd := hd) (hC := hC) (o_me := o_me) (t_me := t_me) (h_tk := h_tk) L0 F161 g40 g41 hC162 hM164
  by_cases h165 : tk = 65
  · refine jx_swe (tg := 136) h165 rfl rfl rfl rfl ?_
    refine jx_ld (pc_q := 137) (l_q := L0) (st_q := [rv (me)]) rfl (jl_rvn g40) ?_
    refine jx_ar (pc_q := 138) (st_q := [.int (i32 (5)), rv (me)]) rfl rfl rfl rfl ?_
    refine cx_vi (c := 1) (a := me) (st := []) (as := [.int (i32 (5))]) rfl rfl rfl o_me t_me (by decide) rfl ⟨rfl, rfl, (Nat.le_of_ble_eq_true rfl)⟩ rfl (k_LCoder_operation (dd := d) (R := R) (m := m) (tg := tg) (ln := ln) (F := F) (me := me) (op := 5) (hd := by omega) (hC := hC) (o_me := o_me) (t_me := t_me) (h_op := by omega)) (fun o V_q hq => ?_)
    obtain ⟨F166, rfl, rfl, hC167, hM168, -⟩ := hq
    have hM169 : Fq 0 [(2, 7), (2, 11), (20, -5), (21, -5)] m tg F F166 := Fq_t (ln := ln) (ln1 := ln) hM0 Ex_r hM168 (by decide) (Or.inl rfl)
    refine Or.inl ⟨rfl, ?_⟩
    refine jx_go (tg := 208) rfl rfl ?_
    exact k_LCoder_operator_at_208 (X := X) (d := d) (R := R) (m := m) (tg := tg) (ln := ln) (F := F) (me := me) (tk := tk) (hd := hd) (hC := hC) (o_me := o_me) (t_me := t_me) (h_tk := h_tk) L0 F166 g40 g41 hC167 hM169
  refine jx_swt (tg := 203) (by omega) (by omega) rfl (by omega) rfl ?_
  refine jx_ld (pc_q := 204) (l_q := L0) (st_q := [rv (me)]) rfl (jl_rvn g40) ?_
  refine jx_ar (pc_q := 205) (st_q := [.int (i32 (2)), rv (me)]) rfl rfl rfl rfl ?_
  refine cx_vi (c := 1) (a := me) (st := []) (as := [.int (i32 (2))]) rfl rfl rfl o_me t_me (by decide) rfl ⟨rfl, rfl, (Nat.le_of_ble_eq_true rfl)⟩ rfl (k_LCoder_operation (dd := d) (R := R) (m := m) (tg := tg) (ln := ln) (F := F) (me := me) (op := 2) (hd := by omega) (hC := hC) (o_me := o_me) (t_me := t_me) (h_op := by omega)) (fun o V_q hq => ?_)
  obtain ⟨F170, rfl, rfl, hC171, hM172, -⟩ := hq
  have hM173 : Fq 0 [(2, 7), (2, 11), (20, -5), (21, -5)] m tg F F170 := Fq_t (ln := ln) (ln1 := ln) hM0 Ex_r hM172 (by decide) (Or.inl rfl)
  refine Or.inl ⟨rfl, ?_⟩
  exact k_LCoder_operator_at_208 (X := X) (d := d) (R := R) (m := m) (tg := tg) (ln := ln) (F := F) (me := me) (tk := tk) (hd := hd) (hC := hC) (o_me := o_me) (t_me := t_me) (h_tk := h_tk) L0 F170 g40 g41 hC171 hM173
