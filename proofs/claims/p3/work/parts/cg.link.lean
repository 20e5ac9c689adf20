set_option maxRecDepth 20000 in
set_option maxHeartbeats 4000000 in
theorem k_java_lang_Math_max {X : jX} {dd : Nat} {R : Nat → jC} {u : Int} {m : Nat} {tg ln : Int → Int} {F : Int → Int → Int} {a b : Int} (hd : 1 ≤ dd) (hC : HC u m tg ln F) (h_a : (-2147483648 : Int) ≤ a ∧ a ≤ 2147483647) (h_b : (-2147483648 : Int) ≤ b ∧ b ≤ 2147483647) : wk X dd 413 [.int (i32 a), .int (i32 b)] (cV R m tg ln F) (fun o V_q => ∃ (r : Int), V_q = cV R m tg ln F ∧ o = .inl (some (.int (i32 r))) ∧ (-2147483648 ≤ r ∧ r ≤ 2147483647) ∧ (a ≤ r) ∧ (b ≤ r) ∧ (r = a ∨ r = b) ∧ True) := by
  obtain ⟨d, rfl⟩ : ∃ d, dd = d + 1 := ⟨dd - 1, by omega⟩
  refine wk_of (e := jm413) rfl (by rw [jS_i, jS_i, jS_0]; exact Nat.le_of_ble_eq_true rfl) ?_
  rw [la_i, la_i, la_0]
  show wj X d jm413 (0, [(0, .int (i32 (a))), (1, .int (i32 (b)))], [], cV R m tg ln F) _
  obtain ⟨L0, eL0⟩ : ∃ q : jL, q = [(0, .int (i32 (a))), (1, .int (i32 (b)))] := ⟨_, rfl⟩
  rw [← eL0]
  have g1 : jGet L0 0 = some (.int (i32 (a))) := eL0 ▸ (rfl : jGet [(0, .int (i32 (a))), (1, .int (i32 (b)))] 0 = some (.int (i32 (a))))
  have g2 : jGet L0 1 = some (.int (i32 (b))) := eL0 ▸ (rfl : jGet [(0, .int (i32 (a))), (1, .int (i32 (b)))] 1 = some (.int (i32 (b))))
  clear eL0
  refine jx_ld (pc_q := 1) (l_q := L0) (st_q := [.int (i32 (a))]) rfl (jl_iloadn g1) ?_
  refine jx_ld (pc_q := 2) (l_q := L0) (st_q := [.int (i32 (b)), .int (i32 (a))]) rfl (jl_iloadn g2) ?_
  refine jx_icmp_lt (pc_q := 5) (tg := 9) rfl rfl rfl (by omega) (by omega) (by omega) (by omega) (fun h3 => ?_) (fun h3 => ?_)
  · have _q := h3
    refine jx_ld (pc_q := 10) (l_q := L0) (st_q := [.int (i32 (b))]) rfl (jl_iloadn g2) ?_
    refine jx_rt (v := some (.int (i32 (b)))) rfl rfl rfl rfl rfl rfl ?_
    exact ⟨(b), rfl, rfl, by omega, by omega, by omega, by omega, trivial⟩
  · have _q := h3
    refine jx_ld (pc_q := 6) (l_q := L0) (st_q := [.int (i32 (a))]) rfl (jl_iloadn g1) ?_
    refine jx_go (tg := 10) rfl rfl ?_
    refine jx_rt (v := some (.int (i32 (a)))) rfl rfl rfl rfl rfl rfl ?_
    exact ⟨(a), rfl, rfl, by omega, by omega, by omega, by omega, trivial⟩
set_option maxRecDepth 20000 in
set_option maxHeartbeats 4000000 in
theorem k_java_lang_Math_min {X : jX} {dd : Nat} {R : Nat → jC} {u : Int} {m : Nat} {tg ln : Int → Int} {F : Int → Int → Int} {a b : Int} (hd : 1 ≤ dd) (hC : HC u m tg ln F) (h_a : (-2147483648 : Int) ≤ a ∧ a ≤ 2147483647) (h_b : (-2147483648 : Int) ≤ b ∧ b ≤ 2147483647) : wk X dd 414 [.int (i32 a), .int (i32 b)] (cV R m tg ln F) (fun o V_q => ∃ (r : Int), V_q = cV R m tg ln F ∧ o = .inl (some (.int (i32 r))) ∧ (-2147483648 ≤ r ∧ r ≤ 2147483647) ∧ (r ≤ a) ∧ (r ≤ b) ∧ (r = a ∨ r = b) ∧ True) := by
  obtain ⟨d, rfl⟩ : ∃ d, dd = d + 1 := ⟨dd - 1, by omega⟩
  refine wk_of (e := jm414) rfl (by rw [jS_i, jS_i, jS_0]; exact Nat.le_of_ble_eq_true rfl) ?_
  rw [la_i, la_i, la_0]
  show wj X d jm414 (0, [(0, .int (i32 (a))), (1, .int (i32 (b)))], [], cV R m tg ln F) _
  obtain ⟨L0, eL0⟩ : ∃ q : jL, q = [(0, .int (i32 (a))), (1, .int (i32 (b)))] := ⟨_, rfl⟩
  rw [← eL0]
  have g1 : jGet L0 0 = some (.int (i32 (a))) := eL0 ▸ (rfl : jGet [(0, .int (i32 (a))), (1, .int (i32 (b)))] 0 = some (.int (i32 (a))))
  have g2 : jGet L0 1 = some (.int (i32 (b))) := eL0 ▸ (rfl : jGet [(0, .int (i32 (a))), (1, .int (i32 (b)))] 1 = some (.int (i32 (b))))
  clear eL0
  refine jx_ld (pc_q := 1) (l_q := L0) (st_q := [.int (i32 (a))]) rfl (jl_iloadn g1) ?_
  refine jx_ld (pc_q := 2) (l_q := L0) (st_q := [.int (i32 (b)), .int (i32 (a))]) rfl (jl_iloadn g2) ?_
  refine jx_icmp_gt (pc_q := 5) (tg := 9) rfl rfl rfl (by omega) (by omega) (by omega) (by omega) (fun h3 => ?_) (fun h3 => ?_)
  · have _q := h3
    refine jx_ld (pc_q := 10) (l_q := L0) (st_q := [.int (i32 (b))]) rfl (jl_iloadn g2) ?_
    refine jx_rt (v := some (.int (i32 (b)))) rfl rfl rfl rfl rfl rfl ?_
    exact ⟨(b), rfl, rfl, by omega, by omega, by omega, by omega, trivial⟩
  · have _q := h3
    refine jx_ld (pc_q := 6) (l_q := L0) (st_q := [.int (i32 (a))]) rfl (jl_iloadn g1) ?_
    refine jx_go (tg := 10) rfl rfl ?_
    refine jx_rt (v := some (.int (i32 (a)))) rfl rfl rfl rfl rfl rfl ?_
    exact ⟨(a), rfl, rfl, by omega, by omega, by omega, by omega, trivial⟩
set_option maxRecDepth 20000 in
set_option maxHeartbeats 4000000 in
theorem k_java_util_Arrays_fill_at_5 {X : jX} {d : Nat} {R : Nat → jC} {m : Nat} {tg ln : Int → Int} {F : Int → Int → Int} {row v : Int} (hd : 1 ≤ d + 1) (hC : HC 0 m tg ln F) (o_row : own m row) (t_row : tg row = 21) (s_row : F row (-1) = 0) (h_v : (-2147483648 : Int) ≤ v ∧ v ≤ 2147483647) : ∀ (mm : Nat) (L : jL) (Fx : Int → Int → Int) (k n : Int), (n - k).toNat = mm → jGet L 0 = some (rv (row)) → jGet L 1 = some (.int (i32 (v))) → jGet L 2 = some (.int (i32 k)) → jGet L 3 = some (.int (i32 n)) → HC 0 m tg ln Fx → Fq 0 [(21, -5)] m tg F Fx → ((-2147483648 : Int) ≤ k ∧ k ≤ 2147483647) → ((-2147483648 : Int) ≤ n ∧ n ≤ 2147483647) → (0 ≤ k) → (n = ln row) → wj X d jm415 (5, L, [], cV R m tg ln Fx) (fun o V_q => ∃ (F_q : Int → Int → Int), V_q = cV R m tg ln F_q ∧ o = .inl none ∧ HC 0 m tg ln F_q ∧ Fq 0 [(21, -5)] m tg F F_q ∧ True) := by
  intro mm
  induction mm using Nat.strongRecOn with
  | ind mm ih =>
    intro L Fx k n hmm gL_0 gL_1 gL_2 gL_3 hCx hMx rx_k rx_n iv_0 iv_1
    refine jx_ld (pc_q := 6) (l_q := L) (st_q := [.int (i32 (k))]) rfl (jl_iloadn gL_2) ?_
    refine jx_ld (pc_q := 7) (l_q := L) (st_q := [.int (i32 (n)), .int (i32 (k))]) rfl (jl_iloadn gL_3) ?_
    refine jx_icmp_ge (pc_q := 10) (tg := 20) rfl rfl rfl (by omega) (by omega) (by omega) (by omega) (fun h1 => ?_) (fun h1 => ?_)
    · have _q := h1
      refine jx_rt (v := none) rfl rfl rfl rfl rfl rfl ?_
      exact ⟨Fx, rfl, rfl, hCx, hMx, trivial⟩
    · have _q := h1
      refine jx_ld (pc_q := 11) (l_q := L) (st_q := [rv (row)]) rfl (jl_rvn gL_0) ?_
      refine jx_ld (pc_q := 12) (l_q := L) (st_q := [.int (i32 (k)), rv (row)]) rfl (jl_iloadn gL_2) ?_
      refine jx_ld (pc_q := 13) (l_q := L) (st_q := [.int (i32 (v)), .int (i32 (k)), rv (row)]) rfl (jl_iloadn gL_1) ?_
      have b2 := HC_l hCx o_row t_row (by decide)
      refine cx_ias (pc_q := 14) (z := k) (y := v) rfl rfl o_row t_row (by omega) (by omega) (by omega) ?_
      obtain ⟨F3, eF3⟩ : ∃ q, q = uF Fx (row) (k) (v) := ⟨_, rfl⟩
      rw [← eF3]
      have hC4 : HC 0 m tg ln F3 := by rw [eF3]; exact HC_pi hCx o_row t_row (by decide) (by omega) (by rw [((hMx _ _ o_row (own_z o_row) (by rw [t_row]; rfl)).trans s_row)]; exact ⟨(by show (-2147483648 : Int) ≤ _; omega), (by show _ ≤ (2147483647 : Int); omega)⟩)
      have hM5 : Fq 0 [(21, -5)] m tg F F3 := by rw [eF3]; exact Fq_p hMx t_row (fun _ => rfl) (inL_a rfl (by omega) rfl)
      refine jx_inc (pc_q := 17) (l_q := jSto1 L 2 (.int (i32 (k + (1))))) (x := k) rfl gL_2 (by decide) rfl rfl ?_
      obtain ⟨L6, eL6⟩ : ∃ q : jL, q = jSto1 L 2 (.int (i32 ((k + (1))))) := ⟨_, rfl⟩
      rw [← eL6]
      have g7 : jGet L6 0 = some (rv (row)) := eL6 ▸ jg_nr (by decide) gL_0
      have g8 : jGet L6 1 = some (.int (i32 (v))) := eL6 ▸ jg_ne (by decide) gL_1 rfl
      have g9 : jGet L6 3 = some (.int (i32 (n))) := eL6 ▸ jg_ne (by decide) gL_3 rfl
      have g10 : jGet L6 2 = some (.int (i32 ((k + (1))))) := eL6 ▸ jg_eq
      clear eL6
      refine jx_go (tg := 5) rfl rfl ?_
      exact ih _ (by omega) L6 F3 ((k + (1))) (n) rfl g7 g8 g10 g9 hC4 hM5 (by omega) (by omega) (by omega) (by omega)
set_option maxRecDepth 20000 in
set_option maxHeartbeats 4000000 in
theorem k_java_util_Arrays_fill {X : jX} {dd : Nat} {R : Nat → jC} {m : Nat} {tg ln : Int → Int} {F : Int → Int → Int} {row v : Int} (hd : 1 ≤ dd) (hC : HC 0 m tg ln F) (o_row : own m row) (t_row : tg row = 21) (s_row : F row (-1) = 0) (h_v : (-2147483648 : Int) ≤ v ∧ v ≤ 2147483647) : wk X dd 415 [rv row, .int (i32 v)] (cV R m tg ln F) (fun o V_q => ∃ (F_q : Int → Int → Int), V_q = cV R m tg ln F_q ∧ o = .inl none ∧ HC 0 m tg ln F_q ∧ Fq 0 [(21, -5)] m tg F F_q ∧ True) := by
  obtain ⟨d, rfl⟩ : ∃ d, dd = d + 1 := ⟨dd - 1, by omega⟩
  refine wk_of (e := jm415) rfl (by rw [jS_r, jS_i, jS_0]; exact Nat.le_of_ble_eq_true rfl) ?_
  rw [la_r, la_i, la_0]
  show wj X d jm415 (0, [(0, rv (row)), (1, .int (i32 (v)))], [], cV R m tg ln F) _
  have hM0 : Fq 0 [(21, -5)] m tg F F := Fq_r
  obtain ⟨L0, eL0⟩ : ∃ q : jL, q = [(0, rv (row)), (1, .int (i32 (v)))] := ⟨_, rfl⟩
  rw [← eL0]
  have g11 : jGet L0 0 = some (rv (row)) := eL0 ▸ (rfl : jGet [(0, rv (row)), (1, .int (i32 (v)))] 0 = some (rv (row)))
  have g12 : jGet L0 1 = some (.int (i32 (v))) := eL0 ▸ (rfl : jGet [(0, rv (row)), (1, .int (i32 (v)))] 1 = some (.int (i32 (v))))
  clear eL0
  refine jx_ar (pc_q := 1) (st_q := [.int (i32 (0))]) rfl rfl rfl rfl ?_
  refine jx_ld (pc_q := 2) (l_q := jSto1 L0 2 (.int (i32 (0)))) (st_q := []) rfl rfl ?_
  obtain ⟨L13, eL13⟩ : ∃ q : jL, q = jSto1 L0 2 (.int (i32 (0))) := ⟨_, rfl⟩
  rw [← eL13]
  have g14 : jGet L13 0 = some (rv (row)) := eL13 ▸ jg_nr (by decide) g11
  have g15 : jGet L13 1 = some (.int (i32 (v))) := eL13 ▸ jg_ne (by decide) g12 rfl
  have g16 : jGet L13 2 = some (.int (i32 (0))) := eL13 ▸ jg_eq
  clear eL13
  refine jx_ld (pc_q := 3) (l_q := L13) (st_q := [rv (row)]) rfl (jl_rvn g14) ?_
  have b17 := HC_l hC o_row t_row (by decide)
  refine cx_len (pc_q := 4) rfl rfl o_row (by rw [t_row]; decide) (by omega) ?_
  refine jx_ld (pc_q := 5) (l_q := jSto1 L13 3 (.int (i32 (ln (row))))) (st_q := []) rfl rfl ?_
  obtain ⟨L18, eL18⟩ : ∃ q : jL, q = jSto1 L13 3 (.int (i32 (ln (row)))) := ⟨_, rfl⟩
  rw [← eL18]
  have g19 : jGet L18 0 = some (rv (row)) := eL18 ▸ jg_nr (by decide) g14
  have g20 : jGet L18 1 = some (.int (i32 (v))) := eL18 ▸ jg_ne (by decide) g15 rfl
  have g21 : jGet L18 2 = some (.int (i32 (0))) := eL18 ▸ jg_ne (by decide) g16 rfl
  have g22 : jGet L18 3 = some (.int (i32 (ln (row)))) := eL18 ▸ jg_eq
  clear eL18
  exact k_java_util_Arrays_fill_at_5 (X := X) (d := d) (R := R) (m := m) (tg := tg) (ln := ln) (F := F) (row := row) (v := v) (hd := hd) (hC := hC) (o_row := o_row) (t_row := t_row) (s_row := s_row) (h_v := h_v) _ L18 F (0) (ln (row)) rfl g19 g20 g21 g22 hC hM0 (by omega) (by omega) (by omega) (by omega)
set_option maxRecDepth 20000 in
set_option maxHeartbeats 4000000 in
theorem k_LLink_clear {X : jX} {dd : Nat} {R : Nat → jC} {m : Nat} {tg ln : Int → Int} {F : Int → Int → Int} {me : Int} (hd : 1 ≤ dd) (hC : HC 0 m tg ln F) (o_me : own m me) (t_me : tg me = 5) : wk X dd 135 [rv me] (cV R m tg ln F) (fun o V_q => ∃ (F_q : Int → Int → Int), V_q = cV R m tg ln F_q ∧ o = .inl none ∧ HC 0 m tg ln F_q ∧ Fq 0 [(5, 2), (5, 3), (5, 4), (5, 5), (5, 6), (5, 7)] m tg F F_q ∧ True) := by
  obtain ⟨d, rfl⟩ : ∃ d, dd = d + 1 := ⟨dd - 1, by omega⟩
  refine wk_of (e := jm135) rfl (by rw [jS_r, jS_0]; exact Nat.le_of_ble_eq_true rfl) ?_
  rw [la_r, la_0]
  show wj X d jm135 (0, [(0, rv (me))], [], cV R m tg ln F) _
  have hM0 : Fq 0 [(5, 2), (5, 3), (5, 4), (5, 5), (5, 6), (5, 7)] m tg F F := Fq_r
  obtain ⟨L0, eL0⟩ : ∃ q : jL, q = [(0, rv (me))] := ⟨_, rfl⟩
  rw [← eL0]
  have g1 : jGet L0 0 = some (rv (me)) := eL0 ▸ (rfl : jGet [(0, rv (me))] 0 = some (rv (me)))
  clear eL0
  refine jx_ld (pc_q := 1) (l_q := L0) (st_q := [rv (me)]) rfl (jl_rvn g1) ?_
  refine jx_ar (pc_q := 2) (st_q := [.int (i32 (0)), rv (me)]) rfl rfl rfl rfl ?_
  refine cx_pi (pc_q := 5) (c := 4) (q := 2) (qi := (2 : Int)) (z := 0) rfl rfl (by decide) (by decide) rfl rfl rfl (by decide) rfl o_me t_me rfl ?_
  obtain ⟨F2, eF2⟩ : ∃ q, q = uF F (me) (2 : Int) (0) := ⟨_, rfl⟩
  rw [← eF2]
  have hC3 : HC 0 m tg ln F2 := by rw [eF2]; exact HC_fi (c := 4) (q := 2) hC t_me (by decide) rfl (by omega) (by omega) ⟨fun w => absurd w (by decide), fun w => absurd w (by decide)⟩
  have hM4 : Fq 0 [(5, 2), (5, 3), (5, 4), (5, 5), (5, 6), (5, 7)] m tg F F2 := by rw [eF2]; exact Fq_p hM0 t_me (fun _ => rfl) rfl
  refine jx_ld (pc_q := 6) (l_q := L0) (st_q := [rv (me)]) rfl (jl_rvn g1) ?_
  refine jx_ar (pc_q := 7) (st_q := [.int (i32 (0)), rv (me)]) rfl rfl rfl rfl ?_
  refine cx_pb (pc_q := 10) (c := 4) (q := 3) (qi := (3 : Int)) (z := 0) rfl rfl (by decide) (by decide) rfl rfl rfl (by decide) (by omega) rfl o_me t_me rfl ?_
  obtain ⟨F5, eF5⟩ : ∃ q, q = uF F2 (me) (3 : Int) (0) := ⟨_, rfl⟩
  rw [← eF5]
  have hC6 : HC 0 m tg ln F5 := by rw [eF5]; exact HC_fi (c := 4) (q := 3) hC3 t_me (by decide) rfl (by omega) (by omega) ⟨fun w => absurd w (by decide), fun w => absurd w (by decide)⟩
  have hM7 : Fq 0 [(5, 2), (5, 3), (5, 4), (5, 5), (5, 6), (5, 7)] m tg F F5 := by rw [eF5]; exact Fq_p hM4 t_me (fun _ => rfl) rfl
  refine jx_ld (pc_q := 11) (l_q := L0) (st_q := [rv (me)]) rfl (jl_rvn g1) ?_
  refine jx_ar (pc_q := 12) (st_q := [.int (i32 (0)), rv (me)]) rfl rfl rfl rfl ?_
  refine cx_pi (pc_q := 15) (c := 4) (q := 4) (qi := (4 : Int)) (z := 0) rfl rfl (by decide) (by decide) rfl rfl rfl (by decide) rfl o_me t_me rfl ?_
  obtain ⟨F8, eF8⟩ : ∃ q, q = uF F5 (me) (4 : Int) (0) := ⟨_, rfl⟩
  rw [← eF8]
  have hC9 : HC 0 m tg ln F8 := by rw [eF8]; exact HC_fi (c := 4) (q := 4) hC6 t_me (by decide) rfl (by omega) (by omega) ⟨fun w => absurd w (by decide), fun w => absurd w (by decide)⟩
  have hM10 : Fq 0 [(5, 2), (5, 3), (5, 4), (5, 5), (5, 6), (5, 7)] m tg F F8 := by rw [eF8]; exact Fq_p hM7 t_me (fun _ => rfl) rfl
  refine jx_ld (pc_q := 16) (l_q := L0) (st_q := [rv (me)]) rfl (jl_rvn g1) ?_
  refine jx_ar (pc_q := 17) (st_q := [.int (i32 (0)), rv (me)]) rfl rfl rfl rfl ?_
  refine cx_pb (pc_q := 20) (c := 4) (q := 5) (qi := (5 : Int)) (z := 0) rfl rfl (by decide) (by decide) rfl rfl rfl (by decide) (by omega) rfl o_me t_me rfl ?_
  obtain ⟨F11, eF11⟩ : ∃ q, q = uF F8 (me) (5 : Int) (0) := ⟨_, rfl⟩
  rw [← eF11]
  have hC12 : HC 0 m tg ln F11 := by rw [eF11]; exact HC_fi (c := 4) (q := 5) hC9 t_me (by decide) rfl (by omega) (by omega) ⟨fun w => absurd w (by decide), fun w => absurd w (by decide)⟩
  have hM13 : Fq 0 [(5, 2), (5, 3), (5, 4), (5, 5), (5, 6), (5, 7)] m tg F F11 := by rw [eF11]; exact Fq_p hM10 t_me (fun _ => rfl) rfl
  refine jx_ld (pc_q := 21) (l_q := L0) (st_q := [rv (me)]) rfl (jl_rvn g1) ?_
  refine jx_ar (pc_q := 22) (st_q := [.int (i32 (0)), rv (me)]) rfl rfl rfl rfl ?_
  refine cx_pb (pc_q := 25) (c := 4) (q := 6) (qi := (6 : Int)) (z := 0) rfl rfl (by decide) (by decide) rfl rfl rfl (by decide) (by omega) rfl o_me t_me rfl ?_
  obtain ⟨F14, eF14⟩ : ∃ q, q = uF F11 (me) (6 : Int) (0) := ⟨_, rfl⟩
  rw [← eF14]
  have hC15 : HC 0 m tg ln F14 := by rw [eF14]; exact HC_fi (c := 4) (q := 6) hC12 t_me (by decide) rfl (by omega) (by omega) ⟨fun w => absurd w (by decide), fun w => absurd w (by decide)⟩
  have hM16 : Fq 0 [(5, 2), (5, 3), (5, 4), (5, 5), (5, 6), (5, 7)] m tg F F14 := by rw [eF14]; exact Fq_p hM13 t_me (fun _ => rfl) rfl
  refine jx_ld (pc_q := 26) (l_q := L0) (st_q := [rv (me)]) rfl (jl_rvn g1) ?_
  refine jx_ar (pc_q := 27) (st_q := [.int (i32 (0)), rv (me)]) rfl rfl rfl rfl ?_
  refine cx_pb (pc_q := 30) (c := 4) (q := 7) (qi := (7 : Int)) (z := 0) rfl rfl (by decide) (by decide) rfl rfl rfl (by decide) (by omega) rfl o_me t_me rfl ?_
  obtain ⟨F17, eF17⟩ : ∃ q, q = uF F14 (me) (7 : Int) (0) := ⟨_, rfl⟩
  rw [← eF17]
  have hC18 : HC 0 m tg ln F17 := by rw [eF17]; exact HC_fi (c := 4) (q := 7) hC15 t_me (by decide) rfl (by omega) (by omega) ⟨fun w => absurd w (by decide), fun w => absurd w (by decide)⟩
  have hM19 : Fq 0 [(5, 2), (5, 3), (5, 4), (5, 5), (5, 6), (5, 7)] m tg F F17 := by rw [eF17]; exact Fq_p hM16 t_me (fun _ => rfl) rfl
  refine jx_rt (v := none) rfl rfl rfl rfl rfl rfl ?_
  exact ⟨F17, rfl, rfl, hC18, hM19, trivial⟩
set_option maxRecDepth 20000 in
set_option maxHeartbeats 4000000 in
theorem k_LLink_isBusy {X : jX} {dd : Nat} {R : Nat → jC} {m : Nat} {tg ln : Int → Int} {F : Int → Int → Int} {me : Int} (hd : 1 ≤ dd) (hC : HC 0 m tg ln F) (o_me : own m me) (t_me : tg me = 5) : wk X dd 137 [rv me] (cV R m tg ln F) (fun o V_q => ∃ (r : Int), V_q = cV R m tg ln F ∧ o = .inl (some (.int (i32 r))) ∧ (0 ≤ r ∧ r ≤ 1) ∧ True) := by
  obtain ⟨d, rfl⟩ : ∃ d, dd = d + 1 := ⟨dd - 1, by omega⟩
  refine wk_of (e := jm137) rfl (by rw [jS_r, jS_0]; exact Nat.le_of_ble_eq_true rfl) ?_
  rw [la_r, la_0]
  show wj X d jm137 (0, [(0, rv (me))], [], cV R m tg ln F) _
  obtain ⟨L0, eL0⟩ : ∃ q : jL, q = [(0, rv (me))] := ⟨_, rfl⟩
  rw [← eL0]
  have g1 : jGet L0 0 = some (rv (me)) := eL0 ▸ (rfl : jGet [(0, rv (me))] 0 = some (rv (me)))
  clear eL0
  refine jx_ld (pc_q := 1) (l_q := L0) (st_q := [rv (me)]) rfl (jl_rvn g1) ?_
  refine cx_gi (pc_q := 4) (c := 4) (q := 6) (v := F (me) (6 : Int)) rfl rfl (by decide) (by decide) (Or.inr rfl) rfl o_me t_me rfl ?_
  have b2 : (0 : Int) ≤ F (me) (6 : Int) ∧ F (me) (6 : Int) ≤ 1 := by have z := HC_i (c := 4) (q := 6) hC o_me t_me (by decide) rfl; rw [show F (me) ((6 : Nat) : Int) = F (me) (6 : Int) from rfl] at z; exact z
  refine jx_if_ne (pc_q := 7) (tg := 14) rfl rfl rfl (by omega) (by omega) (fun h3 => ?_) (fun h3 => ?_)
  · have _q := h3
    refine jx_ar (pc_q := 15) (st_q := [.int (i32 (1))]) rfl rfl rfl rfl ?_
    refine jx_go (tg := 19) rfl rfl ?_
    refine jx_rt (v := some (.int (i32 (1)))) rfl rfl rfl rfl rfl (by first | rfl | exact jRet_b (by omega)) ?_
    exact ⟨(1), rfl, rfl, by omega, trivial⟩
  · have _q := h3
    refine jx_ld (pc_q := 8) (l_q := L0) (st_q := [rv (me)]) rfl (jl_rvn g1) ?_
    refine cx_gi (pc_q := 11) (c := 4) (q := 7) (v := F (me) (7 : Int)) rfl rfl (by decide) (by decide) (Or.inr rfl) rfl o_me t_me rfl ?_
    have b4 : (0 : Int) ≤ F (me) (7 : Int) ∧ F (me) (7 : Int) ≤ 1 := by have z := HC_i (c := 4) (q := 7) hC o_me t_me (by decide) rfl; rw [show F (me) ((7 : Nat) : Int) = F (me) (7 : Int) from rfl] at z; exact z
    refine jx_if_eq (pc_q := 14) (tg := 18) rfl rfl rfl (by omega) (by omega) (fun h5 => ?_) (fun h5 => ?_)
    · have _q := h5
      refine jx_ar (pc_q := 19) (st_q := [.int (i32 (0))]) rfl rfl rfl rfl ?_
      refine jx_rt (v := some (.int (i32 (0)))) rfl rfl rfl rfl rfl (by first | rfl | exact jRet_b (by omega)) ?_
      exact ⟨(0), rfl, rfl, by omega, trivial⟩
    · have _q := h5
      refine jx_ar (pc_q := 15) (st_q := [.int (i32 (1))]) rfl rfl rfl rfl ?_
      refine jx_go (tg := 19) rfl rfl ?_
      refine jx_rt (v := some (.int (i32 (1)))) rfl rfl rfl rfl rfl (by first | rfl | exact jRet_b (by omega)) ?_
      exact ⟨(1), rfl, rfl, by omega, trivial⟩
set_option maxRecDepth 20000 in
set_option maxHeartbeats 4000000 in
theorem k_LLink_isWhole {X : jX} {dd : Nat} {R : Nat → jC} {m : Nat} {tg ln : Int → Int} {F : Int → Int → Int} {me : Int} (hd : 1 ≤ dd) (hC : HC 0 m tg ln F) (o_me : own m me) (t_me : tg me = 5) : wk X dd 138 [rv me] (cV R m tg ln F) (fun o V_q => ∃ (r : Int), V_q = cV R m tg ln F ∧ o = .inl (some (.int (i32 r))) ∧ (0 ≤ r ∧ r ≤ 1) ∧ True) := by
  obtain ⟨d, rfl⟩ : ∃ d, dd = d + 1 := ⟨dd - 1, by omega⟩
  refine wk_of (e := jm138) rfl (by rw [jS_r, jS_0]; exact Nat.le_of_ble_eq_true rfl) ?_
  rw [la_r, la_0]
  show wj X d jm138 (0, [(0, rv (me))], [], cV R m tg ln F) _
  obtain ⟨L0, eL0⟩ : ∃ q : jL, q = [(0, rv (me))] := ⟨_, rfl⟩
  rw [← eL0]
  have g1 : jGet L0 0 = some (rv (me)) := eL0 ▸ (rfl : jGet [(0, rv (me))] 0 = some (rv (me)))
  clear eL0
  refine jx_ld (pc_q := 1) (l_q := L0) (st_q := [rv (me)]) rfl (jl_rvn g1) ?_
  refine cx_gi (pc_q := 4) (c := 4) (q := 4) (v := F (me) (4 : Int)) rfl rfl (by decide) (by decide) (Or.inl rfl) rfl o_me t_me rfl ?_
  have b2 : (-2147483648 : Int) ≤ F (me) (4 : Int) ∧ F (me) (4 : Int) ≤ 2147483647 := by have z := HC_i (c := 4) (q := 4) hC o_me t_me (by decide) rfl; rw [show F (me) ((4 : Nat) : Int) = F (me) (4 : Int) from rfl] at z; exact z
  refine jx_ar (pc_q := 5) (st_q := [.int (i32 (4)), .int (i32 (F (me) (4 : Int)))]) rfl rfl rfl rfl ?_
  refine jx_icmp_ne (pc_q := 8) (tg := 19) rfl rfl rfl (by omega) (by omega) (by decide) (by decide) (fun h3 => ?_) (fun h3 => ?_)
  · have _q := h3
    refine jx_ar (pc_q := 20) (st_q := [.int (i32 (0))]) rfl rfl rfl rfl ?_
    refine jx_rt (v := some (.int (i32 (0)))) rfl rfl rfl rfl rfl (by first | rfl | exact jRet_b (by omega)) ?_
    exact ⟨(0), rfl, rfl, by omega, trivial⟩
  · have _q := h3
    refine jx_ld (pc_q := 9) (l_q := L0) (st_q := [rv (me)]) rfl (jl_rvn g1) ?_
    refine cx_gi (pc_q := 12) (c := 4) (q := 5) (v := F (me) (5 : Int)) rfl rfl (by decide) (by decide) (Or.inr rfl) rfl o_me t_me rfl ?_
    have b4 : (0 : Int) ≤ F (me) (5 : Int) ∧ F (me) (5 : Int) ≤ 1 := by have z := HC_i (c := 4) (q := 5) hC o_me t_me (by decide) rfl; rw [show F (me) ((5 : Nat) : Int) = F (me) (5 : Int) from rfl] at z; exact z
    refine jx_if_ne (pc_q := 15) (tg := 19) rfl rfl rfl (by omega) (by omega) (fun h5 => ?_) (fun h5 => ?_)
    · have _q := h5
      refine jx_ar (pc_q := 20) (st_q := [.int (i32 (0))]) rfl rfl rfl rfl ?_
      refine jx_rt (v := some (.int (i32 (0)))) rfl rfl rfl rfl rfl (by first | rfl | exact jRet_b (by omega)) ?_
      exact ⟨(0), rfl, rfl, by omega, trivial⟩
    · have _q := h5
      refine jx_ar (pc_q := 16) (st_q := [.int (i32 (1))]) rfl rfl rfl rfl ?_
      refine jx_go (tg := 20) rfl rfl ?_
      refine jx_rt (v := some (.int (i32 (1)))) rfl rfl rfl rfl rfl (by first | rfl | exact jRet_b (by omega)) ?_
      exact ⟨(1), rfl, rfl, by omega, trivial⟩
set_option maxRecDepth 20000 in
set_option maxHeartbeats 4000000 in
theorem k_LLink_take {X : jX} {dd : Nat} {R : Nat → jC} {m : Nat} {tg ln : Int → Int} {F : Int → Int → Int} {me : Int} (hd : 1 ≤ dd) (hC : HC 0 m tg ln F) (o_me : own m me) (t_me : tg me = 5) : wk X dd 139 [rv me] (cV R m tg ln F) (fun o V_q => ∃ (F_q : Int → Int → Int), V_q = cV R m tg ln F_q ∧ o = .inl none ∧ HC 0 m tg ln F_q ∧ Fq 0 [(5, 5), (5, 6)] m tg F F_q ∧ True) := by
  obtain ⟨d, rfl⟩ : ∃ d, dd = d + 1 := ⟨dd - 1, by omega⟩
  refine wk_of (e := jm139) rfl (by rw [jS_r, jS_0]; exact Nat.le_of_ble_eq_true rfl) ?_
  rw [la_r, la_0]
  show wj X d jm139 (0, [(0, rv (me))], [], cV R m tg ln F) _
  have hM0 : Fq 0 [(5, 5), (5, 6)] m tg F F := Fq_r
  obtain ⟨L0, eL0⟩ : ∃ q : jL, q = [(0, rv (me))] := ⟨_, rfl⟩
  rw [← eL0]
  have g1 : jGet L0 0 = some (rv (me)) := eL0 ▸ (rfl : jGet [(0, rv (me))] 0 = some (rv (me)))
  clear eL0
  refine jx_ld (pc_q := 1) (l_q := L0) (st_q := [rv (me)]) rfl (jl_rvn g1) ?_
  refine jx_ar (pc_q := 2) (st_q := [.int (i32 (1)), rv (me)]) rfl rfl rfl rfl ?_
  refine cx_pb (pc_q := 5) (c := 4) (q := 5) (qi := (5 : Int)) (z := 1) rfl rfl (by decide) (by decide) rfl rfl rfl (by decide) (by omega) rfl o_me t_me rfl ?_
  obtain ⟨F2, eF2⟩ : ∃ q, q = uF F (me) (5 : Int) (1) := ⟨_, rfl⟩
  rw [← eF2]
  have hC3 : HC 0 m tg ln F2 := by rw [eF2]; exact HC_fi (c := 4) (q := 5) hC t_me (by decide) rfl (by omega) (by omega) ⟨fun w => absurd w (by decide), fun w => absurd w (by decide)⟩
  have hM4 : Fq 0 [(5, 5), (5, 6)] m tg F F2 := by rw [eF2]; exact Fq_p hM0 t_me (fun _ => rfl) rfl
  refine jx_ld (pc_q := 6) (l_q := L0) (st_q := [rv (me)]) rfl (jl_rvn g1) ?_
  refine jx_ar (pc_q := 7) (st_q := [.int (i32 (1)), rv (me)]) rfl rfl rfl rfl ?_
  refine cx_pb (pc_q := 10) (c := 4) (q := 6) (qi := (6 : Int)) (z := 1) rfl rfl (by decide) (by decide) rfl rfl rfl (by decide) (by omega) rfl o_me t_me rfl ?_
  obtain ⟨F5, eF5⟩ : ∃ q, q = uF F2 (me) (6 : Int) (1) := ⟨_, rfl⟩
  rw [← eF5]
  have hC6 : HC 0 m tg ln F5 := by rw [eF5]; exact HC_fi (c := 4) (q := 6) hC3 t_me (by decide) rfl (by omega) (by omega) ⟨fun w => absurd w (by decide), fun w => absurd w (by decide)⟩
  have hM7 : Fq 0 [(5, 5), (5, 6)] m tg F F5 := by rw [eF5]; exact Fq_p hM4 t_me (fun _ => rfl) rfl
  refine jx_rt (v := none) rfl rfl rfl rfl rfl rfl ?_
  exact ⟨F5, rfl, rfl, hC6, hM7, trivial⟩
set_option maxRecDepth 20000 in
set_option maxHeartbeats 4000000 in
theorem k_LLink_load {X : jX} {dd : Nat} {R : Nat → jC} {m : Nat} {tg ln : Int → Int} {F : Int → Int → Int} {me v : Int} (hd : 2 ≤ dd) (hC : HC 0 m tg ln F) (o_me : own m me) (t_me : tg me = 5) (h_v : (-2147483648 : Int) ≤ v ∧ v ≤ 2147483647) : wk X dd 136 [rv me, .int (i32 v)] (cV R m tg ln F) (fun o V_q => ∃ (F_q : Int → Int → Int), V_q = cV R m tg ln F_q ∧ o = .inl none ∧ HC 0 m tg ln F_q ∧ Fq 0 [(5, 2), (5, 3), (5, 4), (5, 5), (5, 6), (5, 7)] m tg F F_q ∧ True) := by
  obtain ⟨d, rfl⟩ : ∃ d, dd = d + 1 := ⟨dd - 1, by omega⟩
  refine wk_of (e := jm136) rfl (by rw [jS_r, jS_i, jS_0]; exact Nat.le_of_ble_eq_true rfl) ?_
  rw [la_r, la_i, la_0]
  show wj X d jm136 (0, [(0, rv (me)), (1, .int (i32 (v)))], [], cV R m tg ln F) _
  have hM0 : Fq 0 [(5, 2), (5, 3), (5, 4), (5, 5), (5, 6), (5, 7)] m tg F F := Fq_r
  obtain ⟨L0, eL0⟩ : ∃ q : jL, q = [(0, rv (me)), (1, .int (i32 (v)))] := ⟨_, rfl⟩
  rw [← eL0]
  have g1 : jGet L0 0 = some (rv (me)) := eL0 ▸ (rfl : jGet [(0, rv (me)), (1, .int (i32 (v)))] 0 = some (rv (me)))
  have g2 : jGet L0 1 = some (.int (i32 (v))) := eL0 ▸ (rfl : jGet [(0, rv (me)), (1, .int (i32 (v)))] 1 = some (.int (i32 (v))))
  clear eL0
  refine jx_ld (pc_q := 1) (l_q := L0) (st_q := [rv (me)]) rfl (jl_rvn g1) ?_
  refine cx_vi (c := 4) (a := me) (st := []) (as := []) rfl rfl rfl o_me t_me (by decide) rfl ⟨rfl, rfl, (Nat.le_of_ble_eq_true rfl)⟩ rfl (k_LLink_clear (dd := d) (R := R) (m := m) (tg := tg) (ln := ln) (F := F) (me := me) (hd := by omega) (hC := hC) (o_me := o_me) (t_me := t_me)) (fun o V_q hq => ?_)
  obtain ⟨F3, rfl, rfl, hC4, hM5, -⟩ := hq
  have hM6 : Fq 0 [(5, 2), (5, 3), (5, 4), (5, 5), (5, 6), (5, 7)] m tg F F3 := Fq_t (ln := ln) (ln1 := ln) hM0 Ex_r hM5 (by decide) (Or.inl rfl)
  refine Or.inl ⟨rfl, ?_⟩
  refine jx_ld (pc_q := 5) (l_q := L0) (st_q := [rv (me)]) rfl (jl_rvn g1) ?_
  refine jx_ld (pc_q := 6) (l_q := L0) (st_q := [.int (i32 (v)), rv (me)]) rfl (jl_iloadn g2) ?_
  refine cx_pi (pc_q := 9) (c := 4) (q := 2) (qi := (2 : Int)) (z := v) rfl rfl (by decide) (by decide) rfl rfl rfl (by decide) rfl o_me t_me rfl ?_
  obtain ⟨F7, eF7⟩ : ∃ q, q = uF F3 (me) (2 : Int) (v) := ⟨_, rfl⟩
  rw [← eF7]
  have hC8 : HC 0 m tg ln F7 := by rw [eF7]; exact HC_fi (c := 4) (q := 2) hC4 t_me (by decide) rfl (by omega) (by omega) ⟨fun w => absurd w (by decide), fun w => absurd w (by decide)⟩
  have hM9 : Fq 0 [(5, 2), (5, 3), (5, 4), (5, 5), (5, 6), (5, 7)] m tg F F7 := by rw [eF7]; exact Fq_p hM6 t_me (fun _ => rfl) rfl
  refine jx_ld (pc_q := 10) (l_q := L0) (st_q := [rv (me)]) rfl (jl_rvn g1) ?_
  refine jx_ar (pc_q := 11) (st_q := [.int (i32 (1)), rv (me)]) rfl rfl rfl rfl ?_
  refine cx_pb (pc_q := 14) (c := 4) (q := 3) (qi := (3 : Int)) (z := 1) rfl rfl (by decide) (by decide) rfl rfl rfl (by decide) (by omega) rfl o_me t_me rfl ?_
  obtain ⟨F10, eF10⟩ : ∃ q, q = uF F7 (me) (3 : Int) (1) := ⟨_, rfl⟩
  rw [← eF10]
  have hC11 : HC 0 m tg ln F10 := by rw [eF10]; exact HC_fi (c := 4) (q := 3) hC8 t_me (by decide) rfl (by omega) (by omega) ⟨fun w => absurd w (by decide), fun w => absurd w (by decide)⟩
  have hM12 : Fq 0 [(5, 2), (5, 3), (5, 4), (5, 5), (5, 6), (5, 7)] m tg F F10 := by rw [eF10]; exact Fq_p hM9 t_me (fun _ => rfl) rfl
  refine jx_ld (pc_q := 15) (l_q := L0) (st_q := [rv (me)]) rfl (jl_rvn g1) ?_
  refine jx_ar (pc_q := 16) (st_q := [.int (i32 (1)), rv (me)]) rfl rfl rfl rfl ?_
  refine cx_pb (pc_q := 19) (c := 4) (q := 7) (qi := (7 : Int)) (z := 1) rfl rfl (by decide) (by decide) rfl rfl rfl (by decide) (by omega) rfl o_me t_me rfl ?_
  obtain ⟨F13, eF13⟩ : ∃ q, q = uF F10 (me) (7 : Int) (1) := ⟨_, rfl⟩
  rw [← eF13]
  have hC14 : HC 0 m tg ln F13 := by rw [eF13]; exact HC_fi (c := 4) (q := 7) hC11 t_me (by decide) rfl (by omega) (by omega) ⟨fun w => absurd w (by decide), fun w => absurd w (by decide)⟩
  have hM15 : Fq 0 [(5, 2), (5, 3), (5, 4), (5, 5), (5, 6), (5, 7)] m tg F F13 := by rw [eF13]; exact Fq_p hM12 t_me (fun _ => rfl) rfl
  refine jx_rt (v := none) rfl rfl rfl rfl rfl rfl ?_
  exact ⟨F13, rfl, rfl, hC14, hM15, trivial⟩
set_option maxRecDepth 20000 in
set_option maxHeartbeats 4000000 in
theorem k_LName_isRow {X : jX} {dd : Nat} {R : Nat → jC} {m : Nat} {tg ln : Int → Int} {F : Int → Int → Int} {me : Int} (hd : 1 ≤ dd) (hC : HC 0 m tg ln F) (o_me : own m me) (t_me : tg me = 7) : wk X dd 154 [rv me] (cV R m tg ln F) (fun o V_q => ∃ (r : Int), V_q = cV R m tg ln F ∧ o = .inl (some (.int (i32 r))) ∧ (0 ≤ r ∧ r ≤ 1) ∧ True) := by
  obtain ⟨d, rfl⟩ : ∃ d, dd = d + 1 := ⟨dd - 1, by omega⟩
  refine wk_of (e := jm154) rfl (by rw [jS_r, jS_0]; exact Nat.le_of_ble_eq_true rfl) ?_
  rw [la_r, la_0]
  show wj X d jm154 (0, [(0, rv (me))], [], cV R m tg ln F) _
  obtain ⟨L0, eL0⟩ : ∃ q : jL, q = [(0, rv (me))] := ⟨_, rfl⟩
  rw [← eL0]
  have g1 : jGet L0 0 = some (rv (me)) := eL0 ▸ (rfl : jGet [(0, rv (me))] 0 = some (rv (me)))
  clear eL0
  refine jx_ld (pc_q := 1) (l_q := L0) (st_q := [rv (me)]) rfl (jl_rvn g1) ?_
  refine cx_gi (pc_q := 4) (c := 6) (q := 0) (v := F (me) (0 : Int)) rfl rfl (by decide) (by decide) (Or.inl rfl) rfl o_me t_me rfl ?_
  have b2 : (-2147483648 : Int) ≤ F (me) (0 : Int) ∧ F (me) (0 : Int) ≤ 2147483647 := by have z := HC_i (c := 6) (q := 0) hC o_me t_me (by decide) rfl; rw [show F (me) ((0 : Nat) : Int) = F (me) (0 : Int) from rfl] at z; exact z
  refine jx_ar (pc_q := 5) (st_q := [.int (i32 (5)), .int (i32 (F (me) (0 : Int)))]) rfl rfl rfl rfl ?_
  refine jx_icmp_eq (pc_q := 8) (tg := 26) rfl rfl rfl (by omega) (by omega) (by decide) (by decide) (fun h3 => ?_) (fun h3 => ?_)
  · have _q := h3
    refine jx_ar (pc_q := 27) (st_q := [.int (i32 (1))]) rfl rfl rfl rfl ?_
    refine jx_go (tg := 31) rfl rfl ?_
    refine jx_rt (v := some (.int (i32 (1)))) rfl rfl rfl rfl rfl (by first | rfl | exact jRet_b (by omega)) ?_
    exact ⟨(1), rfl, rfl, by omega, trivial⟩
  · have _q := h3
    refine jx_ld (pc_q := 9) (l_q := L0) (st_q := [rv (me)]) rfl (jl_rvn g1) ?_
    refine cx_gi (pc_q := 12) (c := 6) (q := 0) (v := F (me) (0 : Int)) rfl rfl (by decide) (by decide) (Or.inl rfl) rfl o_me t_me rfl ?_
    refine jx_ar (pc_q := 14) (st_q := [.int (i32 (6)), .int (i32 (F (me) (0 : Int)))]) rfl rfl rfl rfl ?_
    refine jx_icmp_eq (pc_q := 17) (tg := 26) rfl rfl rfl (by omega) (by omega) (by decide) (by decide) (fun h4 => ?_) (fun h4 => ?_)
    · have _q := h4
      refine jx_ar (pc_q := 27) (st_q := [.int (i32 (1))]) rfl rfl rfl rfl ?_
      refine jx_go (tg := 31) rfl rfl ?_
      refine jx_rt (v := some (.int (i32 (1)))) rfl rfl rfl rfl rfl (by first | rfl | exact jRet_b (by omega)) ?_
      exact ⟨(1), rfl, rfl, by omega, trivial⟩
    · have _q := h4
      refine jx_ld (pc_q := 18) (l_q := L0) (st_q := [rv (me)]) rfl (jl_rvn g1) ?_
      refine cx_gi (pc_q := 21) (c := 6) (q := 0) (v := F (me) (0 : Int)) rfl rfl (by decide) (by decide) (Or.inl rfl) rfl o_me t_me rfl ?_
      refine jx_ar (pc_q := 23) (st_q := [.int (i32 (9)), .int (i32 (F (me) (0 : Int)))]) rfl rfl rfl rfl ?_
      refine jx_icmp_ne (pc_q := 26) (tg := 30) rfl rfl rfl (by omega) (by omega) (by decide) (by decide) (fun h5 => ?_) (fun h5 => ?_)
      · have _q := h5
        refine jx_ar (pc_q := 31) (st_q := [.int (i32 (0))]) rfl rfl rfl rfl ?_
        refine jx_rt (v := some (.int (i32 (0)))) rfl rfl rfl rfl rfl (by first | rfl | exact jRet_b (by omega)) ?_
        exact ⟨(0), rfl, rfl, by omega, trivial⟩
      · have _q := h5
        refine jx_ar (pc_q := 27) (st_q := [.int (i32 (1))]) rfl rfl rfl rfl ?_
        refine jx_go (tg := 31) rfl rfl ?_
        refine jx_rt (v := some (.int (i32 (1)))) rfl rfl rfl rfl rfl (by first | rfl | exact jRet_b (by omega)) ?_
        exact ⟨(1), rfl, rfl, by omega, trivial⟩
set_option maxRecDepth 20000 in
set_option maxHeartbeats 4000000 in
theorem k_LName_isChannel {X : jX} {dd : Nat} {R : Nat → jC} {m : Nat} {tg ln : Int → Int} {F : Int → Int → Int} {me : Int} (hd : 1 ≤ dd) (hC : HC 0 m tg ln F) (o_me : own m me) (t_me : tg me = 7) : wk X dd 155 [rv me] (cV R m tg ln F) (fun o V_q => ∃ (r : Int), V_q = cV R m tg ln F ∧ o = .inl (some (.int (i32 r))) ∧ (0 ≤ r ∧ r ≤ 1) ∧ True) := by
  obtain ⟨d, rfl⟩ : ∃ d, dd = d + 1 := ⟨dd - 1, by omega⟩
  refine wk_of (e := jm155) rfl (by rw [jS_r, jS_0]; exact Nat.le_of_ble_eq_true rfl) ?_
  rw [la_r, la_0]
  show wj X d jm155 (0, [(0, rv (me))], [], cV R m tg ln F) _
  obtain ⟨L0, eL0⟩ : ∃ q : jL, q = [(0, rv (me))] := ⟨_, rfl⟩
  rw [← eL0]
  have g1 : jGet L0 0 = some (rv (me)) := eL0 ▸ (rfl : jGet [(0, rv (me))] 0 = some (rv (me)))
  clear eL0
  refine jx_ld (pc_q := 1) (l_q := L0) (st_q := [rv (me)]) rfl (jl_rvn g1) ?_
  refine cx_gi (pc_q := 4) (c := 6) (q := 0) (v := F (me) (0 : Int)) rfl rfl (by decide) (by decide) (Or.inl rfl) rfl o_me t_me rfl ?_
  have b2 : (-2147483648 : Int) ≤ F (me) (0 : Int) ∧ F (me) (0 : Int) ≤ 2147483647 := by have z := HC_i (c := 6) (q := 0) hC o_me t_me (by decide) rfl; rw [show F (me) ((0 : Nat) : Int) = F (me) (0 : Int) from rfl] at z; exact z
  refine jx_ar (pc_q := 6) (st_q := [.int (i32 (7)), .int (i32 (F (me) (0 : Int)))]) rfl rfl rfl rfl ?_
  refine jx_icmp_eq (pc_q := 9) (tg := 36) rfl rfl rfl (by omega) (by omega) (by decide) (by decide) (fun h3 => ?_) (fun h3 => ?_)
  · have _q := h3
    refine jx_ar (pc_q := 37) (st_q := [.int (i32 (1))]) rfl rfl rfl rfl ?_
    refine jx_go (tg := 41) rfl rfl ?_
    refine jx_rt (v := some (.int (i32 (1)))) rfl rfl rfl rfl rfl (by first | rfl | exact jRet_b (by omega)) ?_
    exact ⟨(1), rfl, rfl, by omega, trivial⟩
  · have _q := h3
    refine jx_ld (pc_q := 10) (l_q := L0) (st_q := [rv (me)]) rfl (jl_rvn g1) ?_
    refine cx_gi (pc_q := 13) (c := 6) (q := 0) (v := F (me) (0 : Int)) rfl rfl (by decide) (by decide) (Or.inl rfl) rfl o_me t_me rfl ?_
    refine jx_ar (pc_q := 15) (st_q := [.int (i32 (8)), .int (i32 (F (me) (0 : Int)))]) rfl rfl rfl rfl ?_
    refine jx_icmp_eq (pc_q := 18) (tg := 36) rfl rfl rfl (by omega) (by omega) (by decide) (by decide) (fun h4 => ?_) (fun h4 => ?_)
    · have _q := h4
      refine jx_ar (pc_q := 37) (st_q := [.int (i32 (1))]) rfl rfl rfl rfl ?_
      refine jx_go (tg := 41) rfl rfl ?_
      refine jx_rt (v := some (.int (i32 (1)))) rfl rfl rfl rfl rfl (by first | rfl | exact jRet_b (by omega)) ?_
      exact ⟨(1), rfl, rfl, by omega, trivial⟩
    · have _q := h4
      refine jx_ld (pc_q := 19) (l_q := L0) (st_q := [rv (me)]) rfl (jl_rvn g1) ?_
      refine cx_gi (pc_q := 22) (c := 6) (q := 0) (v := F (me) (0 : Int)) rfl rfl (by decide) (by decide) (Or.inl rfl) rfl o_me t_me rfl ?_
      refine jx_ar (pc_q := 24) (st_q := [.int (i32 (9)), .int (i32 (F (me) (0 : Int)))]) rfl rfl rfl rfl ?_
      refine jx_icmp_eq (pc_q := 27) (tg := 36) rfl rfl rfl (by omega) (by omega) (by decide) (by decide) (fun h5 => ?_) (fun h5 => ?_)
      · have _q := h5
        refine jx_ar (pc_q := 37) (st_q := [.int (i32 (1))]) rfl rfl rfl rfl ?_
        refine jx_go (tg := 41) rfl rfl ?_
        refine jx_rt (v := some (.int (i32 (1)))) rfl rfl rfl rfl rfl (by first | rfl | exact jRet_b (by omega)) ?_
        exact ⟨(1), rfl, rfl, by omega, trivial⟩
      · have _q := h5
        refine jx_ld (pc_q := 28) (l_q := L0) (st_q := [rv (me)]) rfl (jl_rvn g1) ?_
        refine cx_gi (pc_q := 31) (c := 6) (q := 0) (v := F (me) (0 : Int)) rfl rfl (by decide) (by decide) (Or.inl rfl) rfl o_me t_me rfl ?_
        refine jx_ar (pc_q := 33) (st_q := [.int (i32 (10)), .int (i32 (F (me) (0 : Int)))]) rfl rfl rfl rfl ?_
        refine jx_icmp_ne (pc_q := 36) (tg := 40) rfl rfl rfl (by omega) (by omega) (by decide) (by decide) (fun h6 => ?_) (fun h6 => ?_)
        · have _q := h6
          refine jx_ar (pc_q := 41) (st_q := [.int (i32 (0))]) rfl rfl rfl rfl ?_
          refine jx_rt (v := some (.int (i32 (0)))) rfl rfl rfl rfl rfl (by first | rfl | exact jRet_b (by omega)) ?_
          exact ⟨(0), rfl, rfl, by omega, trivial⟩
        · have _q := h6
          refine jx_ar (pc_q := 37) (st_q := [.int (i32 (1))]) rfl rfl rfl rfl ?_
          refine jx_go (tg := 41) rfl rfl ?_
          refine jx_rt (v := some (.int (i32 (1)))) rfl rfl rfl rfl rfl (by first | rfl | exact jRet_b (by omega)) ?_
          exact ⟨(1), rfl, rfl, by omega, trivial⟩
set_option maxRecDepth 20000 in
set_option maxHeartbeats 4000000 in
theorem k_LName_isTarget {X : jX} {dd : Nat} {R : Nat → jC} {m : Nat} {tg ln : Int → Int} {F : Int → Int → Int} {me : Int} (hd : 1 ≤ dd) (hC : HC 0 m tg ln F) (o_me : own m me) (t_me : tg me = 7) : wk X dd 156 [rv me] (cV R m tg ln F) (fun o V_q => ∃ (r : Int), V_q = cV R m tg ln F ∧ o = .inl (some (.int (i32 r))) ∧ (0 ≤ r ∧ r ≤ 1) ∧ True) := by
  obtain ⟨d, rfl⟩ : ∃ d, dd = d + 1 := ⟨dd - 1, by omega⟩
  refine wk_of (e := jm156) rfl (by rw [jS_r, jS_0]; exact Nat.le_of_ble_eq_true rfl) ?_
  rw [la_r, la_0]
  show wj X d jm156 (0, [(0, rv (me))], [], cV R m tg ln F) _
  obtain ⟨L0, eL0⟩ : ∃ q : jL, q = [(0, rv (me))] := ⟨_, rfl⟩
  rw [← eL0]
  have g1 : jGet L0 0 = some (rv (me)) := eL0 ▸ (rfl : jGet [(0, rv (me))] 0 = some (rv (me)))
  clear eL0
  refine jx_ld (pc_q := 1) (l_q := L0) (st_q := [rv (me)]) rfl (jl_rvn g1) ?_
  refine cx_gi (pc_q := 4) (c := 6) (q := 0) (v := F (me) (0 : Int)) rfl rfl (by decide) (by decide) (Or.inl rfl) rfl o_me t_me rfl ?_
  have b2 : (-2147483648 : Int) ≤ F (me) (0 : Int) ∧ F (me) (0 : Int) ≤ 2147483647 := by have z := HC_i (c := 6) (q := 0) hC o_me t_me (by decide) rfl; rw [show F (me) ((0 : Nat) : Int) = F (me) (0 : Int) from rfl] at z; exact z
  refine jx_if_eq (pc_q := 7) (tg := 32) rfl rfl rfl (by omega) (by omega) (fun h3 => ?_) (fun h3 => ?_)
  · have _q := h3
    refine jx_ar (pc_q := 33) (st_q := [.int (i32 (1))]) rfl rfl rfl rfl ?_
    refine jx_go (tg := 37) rfl rfl ?_
    refine jx_rt (v := some (.int (i32 (1)))) rfl rfl rfl rfl rfl (by first | rfl | exact jRet_b (by omega)) ?_
    exact ⟨(1), rfl, rfl, by omega, trivial⟩
  · have _q := h3
    refine jx_ld (pc_q := 8) (l_q := L0) (st_q := [rv (me)]) rfl (jl_rvn g1) ?_
    refine cx_gi (pc_q := 11) (c := 6) (q := 0) (v := F (me) (0 : Int)) rfl rfl (by decide) (by decide) (Or.inl rfl) rfl o_me t_me rfl ?_
    refine jx_ar (pc_q := 12) (st_q := [.int (i32 (2)), .int (i32 (F (me) (0 : Int)))]) rfl rfl rfl rfl ?_
    refine jx_icmp_eq (pc_q := 15) (tg := 32) rfl rfl rfl (by omega) (by omega) (by decide) (by decide) (fun h4 => ?_) (fun h4 => ?_)
    · have _q := h4
      refine jx_ar (pc_q := 33) (st_q := [.int (i32 (1))]) rfl rfl rfl rfl ?_
      refine jx_go (tg := 37) rfl rfl ?_
      refine jx_rt (v := some (.int (i32 (1)))) rfl rfl rfl rfl rfl (by first | rfl | exact jRet_b (by omega)) ?_
      exact ⟨(1), rfl, rfl, by omega, trivial⟩
    · have _q := h4
      refine jx_ld (pc_q := 16) (l_q := L0) (st_q := [rv (me)]) rfl (jl_rvn g1) ?_
      refine cx_gi (pc_q := 19) (c := 6) (q := 0) (v := F (me) (0 : Int)) rfl rfl (by decide) (by decide) (Or.inl rfl) rfl o_me t_me rfl ?_
      refine jx_ar (pc_q := 20) (st_q := [.int (i32 (5)), .int (i32 (F (me) (0 : Int)))]) rfl rfl rfl rfl ?_
      refine jx_icmp_eq (pc_q := 23) (tg := 32) rfl rfl rfl (by omega) (by omega) (by decide) (by decide) (fun h5 => ?_) (fun h5 => ?_)
      · have _q := h5
        refine jx_ar (pc_q := 33) (st_q := [.int (i32 (1))]) rfl rfl rfl rfl ?_
        refine jx_go (tg := 37) rfl rfl ?_
        refine jx_rt (v := some (.int (i32 (1)))) rfl rfl rfl rfl rfl (by first | rfl | exact jRet_b (by omega)) ?_
        exact ⟨(1), rfl, rfl, by omega, trivial⟩
      · have _q := h5
        refine jx_ld (pc_q := 24) (l_q := L0) (st_q := [rv (me)]) rfl (jl_rvn g1) ?_
        refine cx_gi (pc_q := 27) (c := 6) (q := 0) (v := F (me) (0 : Int)) rfl rfl (by decide) (by decide) (Or.inl rfl) rfl o_me t_me rfl ?_
        refine jx_ar (pc_q := 29) (st_q := [.int (i32 (6)), .int (i32 (F (me) (0 : Int)))]) rfl rfl rfl rfl ?_
        refine jx_icmp_ne (pc_q := 32) (tg := 36) rfl rfl rfl (by omega) (by omega) (by decide) (by decide) (fun h6 => ?_) (fun h6 => ?_)
        · have _q := h6
          refine jx_ar (pc_q := 37) (st_q := [.int (i32 (0))]) rfl rfl rfl rfl ?_
          refine jx_rt (v := some (.int (i32 (0)))) rfl rfl rfl rfl rfl (by first | rfl | exact jRet_b (by omega)) ?_
          exact ⟨(0), rfl, rfl, by omega, trivial⟩
        · have _q := h6
          refine jx_ar (pc_q := 33) (st_q := [.int (i32 (1))]) rfl rfl rfl rfl ?_
          refine jx_go (tg := 37) rfl rfl ?_
          refine jx_rt (v := some (.int (i32 (1)))) rfl rfl rfl rfl rfl (by first | rfl | exact jRet_b (by omega)) ?_
          exact ⟨(1), rfl, rfl, by omega, trivial⟩
set_option maxRecDepth 20000 in
set_option maxHeartbeats 4000000 in
theorem k_LName_isValue {X : jX} {dd : Nat} {R : Nat → jC} {m : Nat} {tg ln : Int → Int} {F : Int → Int → Int} {me : Int} (hd : 2 ≤ dd) (hC : HC 0 m tg ln F) (o_me : own m me) (t_me : tg me = 7) : wk X dd 157 [rv me] (cV R m tg ln F) (fun o V_q => ∃ (r : Int), V_q = cV R m tg ln F ∧ o = .inl (some (.int (i32 r))) ∧ (0 ≤ r ∧ r ≤ 1) ∧ True) := by
  obtain ⟨d, rfl⟩ : ∃ d, dd = d + 1 := ⟨dd - 1, by omega⟩
  refine wk_of (e := jm157) rfl (by rw [jS_r, jS_0]; exact Nat.le_of_ble_eq_true rfl) ?_
  rw [la_r, la_0]
  show wj X d jm157 (0, [(0, rv (me))], [], cV R m tg ln F) _
  obtain ⟨L0, eL0⟩ : ∃ q : jL, q = [(0, rv (me))] := ⟨_, rfl⟩
  rw [← eL0]
  have g1 : jGet L0 0 = some (rv (me)) := eL0 ▸ (rfl : jGet [(0, rv (me))] 0 = some (rv (me)))
  clear eL0
  refine jx_ld (pc_q := 1) (l_q := L0) (st_q := [rv (me)]) rfl (jl_rvn g1) ?_
  refine cx_vi (c := 6) (a := me) (st := []) (as := []) rfl rfl rfl o_me t_me (by decide) rfl ⟨rfl, rfl, (Nat.le_of_ble_eq_true rfl)⟩ rfl (k_LName_isTarget (dd := d) (R := R) (m := m) (tg := tg) (ln := ln) (F := F) (me := me) (hd := by omega) (hC := hC) (o_me := o_me) (t_me := t_me)) (fun o V_q hq => ?_)
  obtain ⟨r2, rfl, rfl, b3, -⟩ := hq
  refine Or.inr (Or.inl ⟨_, rfl, ?_⟩)
  refine jx_if_ne (pc_q := 7) (tg := 31) rfl rfl rfl (by omega) (by omega) (fun h4 => ?_) (fun h4 => ?_)
  · have _q := h4
    refine jx_ar (pc_q := 32) (st_q := [.int (i32 (1))]) rfl rfl rfl rfl ?_
    refine jx_go (tg := 36) rfl rfl ?_
    refine jx_rt (v := some (.int (i32 (1)))) rfl rfl rfl rfl rfl (by first | rfl | exact jRet_b (by omega)) ?_
    exact ⟨(1), rfl, rfl, by omega, trivial⟩
  · have _q := h4
    refine jx_ld (pc_q := 8) (l_q := L0) (st_q := [rv (me)]) rfl (jl_rvn g1) ?_
    refine cx_gi (pc_q := 11) (c := 6) (q := 0) (v := F (me) (0 : Int)) rfl rfl (by decide) (by decide) (Or.inl rfl) rfl o_me t_me rfl ?_
    have b5 : (-2147483648 : Int) ≤ F (me) (0 : Int) ∧ F (me) (0 : Int) ≤ 2147483647 := by have z := HC_i (c := 6) (q := 0) hC o_me t_me (by decide) rfl; rw [show F (me) ((0 : Nat) : Int) = F (me) (0 : Int) from rfl] at z; exact z
    refine jx_ar (pc_q := 12) (st_q := [.int (i32 (1)), .int (i32 (F (me) (0 : Int)))]) rfl rfl rfl rfl ?_
    refine jx_icmp_eq (pc_q := 15) (tg := 31) rfl rfl rfl (by omega) (by omega) (by decide) (by decide) (fun h6 => ?_) (fun h6 => ?_)
    · have _q := h6
      refine jx_ar (pc_q := 32) (st_q := [.int (i32 (1))]) rfl rfl rfl rfl ?_
      refine jx_go (tg := 36) rfl rfl ?_
      refine jx_rt (v := some (.int (i32 (1)))) rfl rfl rfl rfl rfl (by first | rfl | exact jRet_b (by omega)) ?_
      exact ⟨(1), rfl, rfl, by omega, trivial⟩
    · have _q := h6
      refine jx_ld (pc_q := 16) (l_q := L0) (st_q := [rv (me)]) rfl (jl_rvn g1) ?_
      refine cx_gi (pc_q := 19) (c := 6) (q := 0) (v := F (me) (0 : Int)) rfl rfl (by decide) (by decide) (Or.inl rfl) rfl o_me t_me rfl ?_
      refine jx_ar (pc_q := 20) (st_q := [.int (i32 (3)), .int (i32 (F (me) (0 : Int)))]) rfl rfl rfl rfl ?_
      refine jx_icmp_eq (pc_q := 23) (tg := 31) rfl rfl rfl (by omega) (by omega) (by decide) (by decide) (fun h7 => ?_) (fun h7 => ?_)
      · have _q := h7
        refine jx_ar (pc_q := 32) (st_q := [.int (i32 (1))]) rfl rfl rfl rfl ?_
        refine jx_go (tg := 36) rfl rfl ?_
        refine jx_rt (v := some (.int (i32 (1)))) rfl rfl rfl rfl rfl (by first | rfl | exact jRet_b (by omega)) ?_
        exact ⟨(1), rfl, rfl, by omega, trivial⟩
      · have _q := h7
        refine jx_ld (pc_q := 24) (l_q := L0) (st_q := [rv (me)]) rfl (jl_rvn g1) ?_
        refine cx_gi (pc_q := 27) (c := 6) (q := 0) (v := F (me) (0 : Int)) rfl rfl (by decide) (by decide) (Or.inl rfl) rfl o_me t_me rfl ?_
        refine jx_ar (pc_q := 28) (st_q := [.int (i32 (4)), .int (i32 (F (me) (0 : Int)))]) rfl rfl rfl rfl ?_
        refine jx_icmp_ne (pc_q := 31) (tg := 35) rfl rfl rfl (by omega) (by omega) (by decide) (by decide) (fun h8 => ?_) (fun h8 => ?_)
        · have _q := h8
          refine jx_ar (pc_q := 36) (st_q := [.int (i32 (0))]) rfl rfl rfl rfl ?_
          refine jx_rt (v := some (.int (i32 (0)))) rfl rfl rfl rfl rfl (by first | rfl | exact jRet_b (by omega)) ?_
          exact ⟨(0), rfl, rfl, by omega, trivial⟩
        · have _q := h8
          refine jx_ar (pc_q := 32) (st_q := [.int (i32 (1))]) rfl rfl rfl rfl ?_
          refine jx_go (tg := 36) rfl rfl ?_
          refine jx_rt (v := some (.int (i32 (1)))) rfl rfl rfl rfl rfl (by first | rfl | exact jRet_b (by omega)) ?_
          exact ⟨(1), rfl, rfl, by omega, trivial⟩
set_option maxRecDepth 20000 in
set_option maxHeartbeats 4000000 in
theorem k_LProgram_blame {X : jX} {dd : Nat} {R : Nat → jC} {m : Nat} {tg ln : Int → Int} {F : Int → Int → Int} {me k l p : Int} (hd : 1 ≤ dd) (hC : HC 0 m tg ln F) (o_me : own m me) (t_me : tg me = 10) (h_k : (-2147483648 : Int) ≤ k ∧ k ≤ 2147483647) (h_l : (-2147483648 : Int) ≤ l ∧ l ≤ 2147483647) (h_p : (-2147483648 : Int) ≤ p ∧ p ≤ 2147483647) : wk X dd 205 [rv me, .int (i32 k), .int (i32 l), .int (i32 p)] (cV R m tg ln F) (fun o V_q => ∃ (F_q : Int → Int → Int), V_q = cV R m tg ln F_q ∧ o = .inl none ∧ HC 0 m tg ln F_q ∧ Fq 0 [(10, 0), (10, 1), (10, 2)] m tg F F_q ∧ True) := by
  obtain ⟨d, rfl⟩ : ∃ d, dd = d + 1 := ⟨dd - 1, by omega⟩
  refine wk_of (e := jm205) rfl (by rw [jS_r, jS_i, jS_i, jS_i, jS_0]; exact Nat.le_of_ble_eq_true rfl) ?_
  rw [la_r, la_i, la_i, la_i, la_0]
  show wj X d jm205 (0, [(0, rv (me)), (1, .int (i32 (k))), (2, .int (i32 (l))), (3, .int (i32 (p)))], [], cV R m tg ln F) _
  have hM0 : Fq 0 [(10, 0), (10, 1), (10, 2)] m tg F F := Fq_r
  obtain ⟨L0, eL0⟩ : ∃ q : jL, q = [(0, rv (me)), (1, .int (i32 (k))), (2, .int (i32 (l))), (3, .int (i32 (p)))] := ⟨_, rfl⟩
  rw [← eL0]
  have g1 : jGet L0 0 = some (rv (me)) := eL0 ▸ (rfl : jGet [(0, rv (me)), (1, .int (i32 (k))), (2, .int (i32 (l))), (3, .int (i32 (p)))] 0 = some (rv (me)))
  have g2 : jGet L0 1 = some (.int (i32 (k))) := eL0 ▸ (rfl : jGet [(0, rv (me)), (1, .int (i32 (k))), (2, .int (i32 (l))), (3, .int (i32 (p)))] 1 = some (.int (i32 (k))))
  have g3 : jGet L0 2 = some (.int (i32 (l))) := eL0 ▸ (rfl : jGet [(0, rv (me)), (1, .int (i32 (k))), (2, .int (i32 (l))), (3, .int (i32 (p)))] 2 = some (.int (i32 (l))))
  have g4 : jGet L0 3 = some (.int (i32 (p))) := eL0 ▸ (rfl : jGet [(0, rv (me)), (1, .int (i32 (k))), (2, .int (i32 (l))), (3, .int (i32 (p)))] 3 = some (.int (i32 (p))))
  clear eL0
  refine jx_ld (pc_q := 1) (l_q := L0) (st_q := [rv (me)]) rfl (jl_rvn g1) ?_
  refine jx_ld (pc_q := 2) (l_q := L0) (st_q := [.int (i32 (k)), rv (me)]) rfl (jl_iloadn g2) ?_
  refine cx_pi (pc_q := 5) (c := 9) (q := 0) (qi := (0 : Int)) (z := k) rfl rfl (by decide) (by decide) rfl rfl rfl (by decide) rfl o_me t_me rfl ?_
  obtain ⟨F5, eF5⟩ : ∃ q, q = uF F (me) (0 : Int) (k) := ⟨_, rfl⟩
  rw [← eF5]
  have hC6 : HC 0 m tg ln F5 := by rw [eF5]; exact HC_fi (c := 9) (q := 0) hC t_me (by decide) rfl (by omega) (by omega) ⟨fun w => absurd w (by decide), fun w => absurd w (by decide)⟩
  have hM7 : Fq 0 [(10, 0), (10, 1), (10, 2)] m tg F F5 := by rw [eF5]; exact Fq_p hM0 t_me (fun _ => rfl) rfl
  refine jx_ld (pc_q := 6) (l_q := L0) (st_q := [rv (me)]) rfl (jl_rvn g1) ?_
  refine jx_ld (pc_q := 7) (l_q := L0) (st_q := [.int (i32 (l)), rv (me)]) rfl (jl_iloadn g3) ?_
  refine cx_pi (pc_q := 10) (c := 9) (q := 1) (qi := (1 : Int)) (z := l) rfl rfl (by decide) (by decide) rfl rfl rfl (by decide) rfl o_me t_me rfl ?_
  obtain ⟨F8, eF8⟩ : ∃ q, q = uF F5 (me) (1 : Int) (l) := ⟨_, rfl⟩
  rw [← eF8]
  have hC9 : HC 0 m tg ln F8 := by rw [eF8]; exact HC_fi (c := 9) (q := 1) hC6 t_me (by decide) rfl (by omega) (by omega) ⟨fun w => absurd w (by decide), fun w => absurd w (by decide)⟩
  have hM10 : Fq 0 [(10, 0), (10, 1), (10, 2)] m tg F F8 := by rw [eF8]; exact Fq_p hM7 t_me (fun _ => rfl) rfl
  refine jx_ld (pc_q := 11) (l_q := L0) (st_q := [rv (me)]) rfl (jl_rvn g1) ?_
  refine jx_ld (pc_q := 12) (l_q := L0) (st_q := [.int (i32 (p)), rv (me)]) rfl (jl_iloadn g4) ?_
  refine cx_pi (pc_q := 15) (c := 9) (q := 2) (qi := (2 : Int)) (z := p) rfl rfl (by decide) (by decide) rfl rfl rfl (by decide) rfl o_me t_me rfl ?_
  obtain ⟨F11, eF11⟩ : ∃ q, q = uF F8 (me) (2 : Int) (p) := ⟨_, rfl⟩
  rw [← eF11]
  have hC12 : HC 0 m tg ln F11 := by rw [eF11]; exact HC_fi (c := 9) (q := 2) hC9 t_me (by decide) rfl (by omega) (by omega) ⟨fun w => absurd w (by decide), fun w => absurd w (by decide)⟩
  have hM13 : Fq 0 [(10, 0), (10, 1), (10, 2)] m tg F F11 := by rw [eF11]; exact Fq_p hM10 t_me (fun _ => rfl) rfl
  refine jx_rt (v := none) rfl rfl rfl rfl rfl rfl ?_
  exact ⟨F11, rfl, rfl, hC12, hM13, trivial⟩
